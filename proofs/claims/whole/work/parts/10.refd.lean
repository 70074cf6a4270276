/-! FloatBoxesModel.lastFalling(IIIII)J -/
abbrev rm_X8_lastFalling : Room := { frames := 6, cells := 0, slots := 0, locals := 133 }
def f_X8_lastFalling_B80 (N : Nat) (k10 : Int32 → Int32 → Int32 → Int64 → Int64 → Option (Int64)) (x2 : Int32) (x3 : Int32) (x4 : Int32) (x5 : Int64) (z0 : Int64) : Option (Int64) :=
  k10 x2 x3 x4 x5 z0
set_option maxHeartbeats 4000000 in
set_option maxRecDepth 100000 in
theorem w_X8_lastFalling_B80 {p : Program} {l : Launch} {e : Env} {s : State} {m : MethodId} {args : Array Value} {below : List Frame} {meth : Method} {c : Code} {N : Nat} {r : Int64} (C0 : g_cx cX8_lastFalling (some .long) 12 RX8 wsX8_lastFalling p s m args meth c) (k10 : Int32 → Int32 → Int32 → Int64 → Int64 → Option (Int64)) (hk10 : ∀ (x2 : Int32) (x3 : Int32) (x4 : Int32) (x5 : Int64) (x7 : Int64) (ls : Array Slot), k10 x2 x3 x4 x5 x7 = some r → lv_has ls 12 [(2, .int x2), (3, .int x3), (4, .int x4), (5, .long x5), (7, .long x7)] → W p l e rm_X8_lastFalling s m args below meth c s.heap [] 0 0 (MQ below (g_SL r) args s 0 0 (fun _ => False)) (F0 m 10 ls [])) : ∀ (x2 : Int32) (x3 : Int32) (x4 : Int32) (x5 : Int64) (z0 : Int64) (ls : Array Slot), f_X8_lastFalling_B80 N k10 x2 x3 x4 x5 z0 = some r → lv_has ls 12 [(2, .int x2), (3, .int x3), (4, .int x4), (5, .long x5)] → W p l e rm_X8_lastFalling s m args below meth c s.heap [] 0 0 (MQ below (g_SL r) args s 0 0 (fun _ => False)) (F0 m 80 ls [.long z0]) := by
  obtain ⟨hx, hb, hr, hml, hown, hts, hlocks⟩ := id C0
  intro x2 x3 x4 x5 z0 ls hf hl
  unfold f_X8_lastFalling_B80 at hf
  refine lv_lstore (lv' := [(7, .long z0), (2, .int x2), (3, .int x3), (4, .int x4), (5, .long x5)]) hx hb dX8_lastFalling_80 hl (by decide) rfl (fun ls hl => ?_)
  refine lv_goto (tgt := 10) hx hb dX8_lastFalling_82 (by decide) ?_
  exact hk10 x2 x3 x4 x5 z0 ls hf (lv_sub hl [1, 2, 3, 4, 0] rfl)
def f_X8_lastFalling_B64 (N : Nat) (k10 : Int32 → Int32 → Int32 → Int64 → Int64 → Option (Int64)) (x2 : Int32) (x3 : Int32) (x4 : Int32) (x7 : Int64) (x9 : Int64) (x11 : Int32) (z0 : Int64) : Option (Int64) :=
  if x11 = 0 then
    f_X8_lastFalling_B80 N k10 x2 x3 x4 z0 (x9 - 1)
  else
    f_X8_lastFalling_B80 N k10 x2 x3 x4 z0 x7
set_option maxHeartbeats 4000000 in
set_option maxRecDepth 100000 in
theorem w_X8_lastFalling_B64 {p : Program} {l : Launch} {e : Env} {s : State} {m : MethodId} {args : Array Value} {below : List Frame} {meth : Method} {c : Code} {N : Nat} {r : Int64} (C0 : g_cx cX8_lastFalling (some .long) 12 RX8 wsX8_lastFalling p s m args meth c) (k10 : Int32 → Int32 → Int32 → Int64 → Int64 → Option (Int64)) (hk10 : ∀ (x2 : Int32) (x3 : Int32) (x4 : Int32) (x5 : Int64) (x7 : Int64) (ls : Array Slot), k10 x2 x3 x4 x5 x7 = some r → lv_has ls 12 [(2, .int x2), (3, .int x3), (4, .int x4), (5, .long x5), (7, .long x7)] → W p l e rm_X8_lastFalling s m args below meth c s.heap [] 0 0 (MQ below (g_SL r) args s 0 0 (fun _ => False)) (F0 m 10 ls [])) : ∀ (x2 : Int32) (x3 : Int32) (x4 : Int32) (x7 : Int64) (x9 : Int64) (x11 : Int32) (z0 : Int64) (ls : Array Slot), f_X8_lastFalling_B64 N k10 x2 x3 x4 x7 x9 x11 z0 = some r → lv_has ls 12 [(2, .int x2), (3, .int x3), (4, .int x4), (7, .long x7), (9, .long x9), (11, .int x11)] → W p l e rm_X8_lastFalling s m args below meth c s.heap [] 0 0 (MQ below (g_SL r) args s 0 0 (fun _ => False)) (F0 m 64 ls [.long z0]) := by
  obtain ⟨hx, hb, hr, hml, hown, hts, hlocks⟩ := id C0
  intro x2 x3 x4 x7 x9 x11 z0 ls hf hl
  unfold f_X8_lastFalling_B64 at hf
  refine lv_lstore (lv' := [(5, .long z0), (2, .int x2), (3, .int x3), (4, .int x4), (7, .long x7), (9, .long x9), (11, .int x11)]) hx hb dX8_lastFalling_64 hl (by decide) rfl (fun ls hl => ?_)
  refine lv_iload hx hb dX8_lastFalling_66 (lv_at hl 6 rfl) ?_
  refine lv_if_eq (tgt := 76) hx hb dX8_lastFalling_68 (by decide) (fun c68 => ?_) (fun c68 => ?_)
  · replace hf := o_t c68 hf
    refine lv_lload hx hb dX8_lastFalling_76 (lv_at hl 5 rfl) ?_
    refine lv_lconst (v := 1) hx hb dX8_lastFalling_78 (by decide) ?_
    refine lv_lsub hx hb dX8_lastFalling_79 ?_
    exact w_X8_lastFalling_B80 C0 k10 hk10 x2 x3 x4 z0 (x9 - 1) ls hf (lv_sub hl [1, 2, 3, 0] rfl)
  · replace hf := o_f c68 hf
    refine lv_lload hx hb dX8_lastFalling_71 (lv_at hl 4 rfl) ?_
    refine lv_goto (tgt := 80) hx hb dX8_lastFalling_73 (by decide) ?_
    exact w_X8_lastFalling_B80 C0 k10 hk10 x2 x3 x4 z0 x7 ls hf (lv_sub hl [1, 2, 3, 0] rfl)
def f_X8_lastFalling_B50 (N : Nat) (k10 : Int32 → Int32 → Int32 → Int64 → Int64 → Option (Int64)) (x2 : Int32) (x3 : Int32) (x4 : Int32) (x5 : Int64) (x7 : Int64) (x9 : Int64) (z0 : Int32) : Option (Int64) :=
  if z0 = 0 then
    f_X8_lastFalling_B64 N k10 x2 x3 x4 x7 x9 z0 x5
  else
    f_X8_lastFalling_B64 N k10 x2 x3 x4 x7 x9 z0 x9
set_option maxHeartbeats 4000000 in
set_option maxRecDepth 100000 in
theorem w_X8_lastFalling_B50 {p : Program} {l : Launch} {e : Env} {s : State} {m : MethodId} {args : Array Value} {below : List Frame} {meth : Method} {c : Code} {N : Nat} {r : Int64} (C0 : g_cx cX8_lastFalling (some .long) 12 RX8 wsX8_lastFalling p s m args meth c) (k10 : Int32 → Int32 → Int32 → Int64 → Int64 → Option (Int64)) (hk10 : ∀ (x2 : Int32) (x3 : Int32) (x4 : Int32) (x5 : Int64) (x7 : Int64) (ls : Array Slot), k10 x2 x3 x4 x5 x7 = some r → lv_has ls 12 [(2, .int x2), (3, .int x3), (4, .int x4), (5, .long x5), (7, .long x7)] → W p l e rm_X8_lastFalling s m args below meth c s.heap [] 0 0 (MQ below (g_SL r) args s 0 0 (fun _ => False)) (F0 m 10 ls [])) : ∀ (x2 : Int32) (x3 : Int32) (x4 : Int32) (x5 : Int64) (x7 : Int64) (x9 : Int64) (z0 : Int32) (ls : Array Slot), f_X8_lastFalling_B50 N k10 x2 x3 x4 x5 x7 x9 z0 = some r → lv_has ls 12 [(2, .int x2), (3, .int x3), (4, .int x4), (5, .long x5), (7, .long x7), (9, .long x9)] → W p l e rm_X8_lastFalling s m args below meth c s.heap [] 0 0 (MQ below (g_SL r) args s 0 0 (fun _ => False)) (F0 m 50 ls [.int z0]) := by
  obtain ⟨hx, hb, hr, hml, hown, hts, hlocks⟩ := id C0
  intro x2 x3 x4 x5 x7 x9 z0 ls hf hl
  unfold f_X8_lastFalling_B50 at hf
  refine lv_istore (lv' := [(11, .int z0), (2, .int x2), (3, .int x3), (4, .int x4), (5, .long x5), (7, .long x7), (9, .long x9)]) hx hb dX8_lastFalling_50 hl (by decide) rfl (fun ls hl => ?_)
  refine lv_iload hx hb dX8_lastFalling_52 (lv_at hl 0 rfl) ?_
  refine lv_if_eq (tgt := 62) hx hb dX8_lastFalling_54 (by decide) (fun c54 => ?_) (fun c54 => ?_)
  · replace hf := o_t c54 hf
    refine lv_lload hx hb dX8_lastFalling_62 (lv_at hl 4 rfl) ?_
    exact w_X8_lastFalling_B64 C0 k10 hk10 x2 x3 x4 x7 x9 z0 x5 ls hf (lv_sub hl [1, 2, 3, 5, 6, 0] rfl)
  · replace hf := o_f c54 hf
    refine lv_lload hx hb dX8_lastFalling_57 (lv_at hl 6 rfl) ?_
    refine lv_goto (tgt := 64) hx hb dX8_lastFalling_59 (by decide) ?_
    exact w_X8_lastFalling_B64 C0 k10 hk10 x2 x3 x4 x7 x9 z0 x9 ls hf (lv_sub hl [1, 2, 3, 5, 6, 0] rfl)
def f_X8_lastFalling_C10 (N : Nat) (k10 : Int32 → Int32 → Int32 → Int64 → Int64 → Option (Int64)) (x2 : Int32) (x3 : Int32) (x4 : Int32) (x5 : Int64) (x7 : Int64) : Option (Int64) :=
  if 0 ≤ (lg_cmp x5 x7) then
    some x5
  else
    o_b1 (f_X8_floorHalf ((x5 + x7) + 1)) (fun (r25 : Int64) =>
    o_b1 (f_X8_outer 1 r25.toInt32 x2 x3 1) (fun (r37 : Int32) =>
    if r37 < x4 then
      f_X8_lastFalling_B50 N k10 x2 x3 x4 x5 x7 r25 0
    else
      f_X8_lastFalling_B50 N k10 x2 x3 x4 x5 x7 r25 1))
def f_X8_lastFalling_L10 (N : Nat) : Nat → Int32 → Int32 → Int32 → Int64 → Int64 → Option (Int64)
  | 0 => fun _ _ _ _ _ => none
  | n + 1 => f_X8_lastFalling_C10 N (f_X8_lastFalling_L10 N n)
set_option maxHeartbeats 4000000 in
set_option maxRecDepth 100000 in
theorem w_X8_lastFalling_C10 {p : Program} {l : Launch} {e : Env} {s : State} {m : MethodId} {args : Array Value} {below : List Frame} {meth : Method} {c : Code} {N : Nat} {r : Int64} (C0 : g_cx cX8_lastFalling (some .long) 12 RX8 wsX8_lastFalling p s m args meth c) (k10 : Int32 → Int32 → Int32 → Int64 → Int64 → Option (Int64)) (hk10 : ∀ (x2 : Int32) (x3 : Int32) (x4 : Int32) (x5 : Int64) (x7 : Int64) (ls : Array Slot), k10 x2 x3 x4 x5 x7 = some r → lv_has ls 12 [(2, .int x2), (3, .int x3), (4, .int x4), (5, .long x5), (7, .long x7)] → W p l e rm_X8_lastFalling s m args below meth c s.heap [] 0 0 (MQ below (g_SL r) args s 0 0 (fun _ => False)) (F0 m 10 ls [])) : ∀ (x2 : Int32) (x3 : Int32) (x4 : Int32) (x5 : Int64) (x7 : Int64) (ls : Array Slot), f_X8_lastFalling_C10 N k10 x2 x3 x4 x5 x7 = some r → lv_has ls 12 [(2, .int x2), (3, .int x3), (4, .int x4), (5, .long x5), (7, .long x7)] → W p l e rm_X8_lastFalling s m args below meth c s.heap [] 0 0 (MQ below (g_SL r) args s 0 0 (fun _ => False)) (F0 m 10 ls []) := by
  obtain ⟨hx, hb, hr, hml, hown, hts, hlocks⟩ := id C0
  intro x2 x3 x4 x5 x7 ls hf hl
  unfold f_X8_lastFalling_C10 at hf
  refine lv_lload hx hb dX8_lastFalling_10 (lv_at hl 3 rfl) ?_
  refine lv_lload hx hb dX8_lastFalling_12 (lv_at hl 4 rfl) ?_
  refine W.lcmp hx hb dX8_lastFalling_14 ?_
  refine lv_if_ge (tgt := 85) hx hb dX8_lastFalling_15 (by decide) (fun c15 => ?_) (fun c15 => ?_)
  · replace hf := o_t c15 hf
    refine lv_lload hx hb dX8_lastFalling_85 (lv_at hl 3 rfl) ?_
    have q0 := Option.some.inj hf
    subst q0
    exact g_slret hx hb hr hlocks dX8_lastFalling_87
  · replace hf := o_f c15 hf
    refine lv_lload hx hb dX8_lastFalling_18 (lv_at hl 3 rfl) ?_
    refine lv_lload hx hb dX8_lastFalling_20 (lv_at hl 4 rfl) ?_
    refine lv_ladd hx hb dX8_lastFalling_22 ?_
    refine lv_lconst (v := 1) hx hb dX8_lastFalling_23 (by decide) ?_
    refine lv_ladd hx hb dX8_lastFalling_24 ?_
    obtain ⟨r25, hg25, hf⟩ := o_b1_go hf
    refine g_callSl (rest := []) ⟨hx, hb, hml, hown, hts⟩ (c_X8_floorHalf l hg25) (va_cwS 1 hts gX8_lastFalling_X8_floorHalf rfl rfl rfl (by decide +kernel) ⟨Nat.le_of_ble_eq_true rfl, Nat.le_of_ble_eq_true rfl⟩) rfl hl.1 rfl (Nat.le_of_ble_eq_true rfl) dX8_lastFalling_25 ?_
    refine lv_lstore (lv' := [(9, .long r25), (2, .int x2), (3, .int x3), (4, .int x4), (5, .long x5), (7, .long x7)]) hx hb dX8_lastFalling_28 hl (by decide) rfl (fun ls hl => ?_)
    refine lv_iconst (v := 1) hx hb dX8_lastFalling_30 (by decide) ?_
    refine lv_lload hx hb dX8_lastFalling_31 (lv_at hl 0 rfl) ?_
    refine lv_l2i hx hb dX8_lastFalling_33 rfl ?_
    refine lv_iload_n hx hb dX8_lastFalling_34 rfl (lv_at hl 1 rfl) ?_
    refine lv_iload_n hx hb dX8_lastFalling_35 rfl (lv_at hl 2 rfl) ?_
    refine lv_iconst (v := 1) hx hb dX8_lastFalling_36 (by decide) ?_
    obtain ⟨r37, hg37, hf⟩ := o_b1_go hf
    refine g_callSi (rest := []) ⟨hx, hb, hml, hown, hts⟩ (c_X8_outer l hg37) (va_cwS 5 hts gX8_lastFalling_X8_outer rfl rfl rfl (by decide +kernel) ⟨Nat.le_of_ble_eq_true rfl, Nat.le_of_ble_eq_true rfl⟩) rfl hl.1 rfl (Nat.le_of_ble_eq_true rfl) dX8_lastFalling_37 ?_
    refine lv_iload hx hb dX8_lastFalling_40 (lv_at hl 3 rfl) ?_
    refine lv_icmp_lt (tgt := 49) hx hb dX8_lastFalling_42 (by decide) (fun c42 => ?_) (fun c42 => ?_)
    · replace hf := o_t c42 hf
      refine lv_iconst (v := 0) hx hb dX8_lastFalling_49 (by decide) ?_
      exact w_X8_lastFalling_B50 C0 k10 hk10 x2 x3 x4 x5 x7 r25 0 ls hf (lv_sub hl [1, 2, 3, 4, 5, 0] rfl)
    · replace hf := o_f c42 hf
      refine lv_iconst (v := 1) hx hb dX8_lastFalling_45 (by decide) ?_
      refine lv_goto (tgt := 50) hx hb dX8_lastFalling_46 (by decide) ?_
      exact w_X8_lastFalling_B50 C0 k10 hk10 x2 x3 x4 x5 x7 r25 1 ls hf (lv_sub hl [1, 2, 3, 4, 5, 0] rfl)
set_option maxHeartbeats 4000000 in
set_option maxRecDepth 100000 in
theorem w_X8_lastFalling_L10 {p : Program} {l : Launch} {e : Env} {s : State} {m : MethodId} {args : Array Value} {below : List Frame} {meth : Method} {c : Code} {N : Nat} {r : Int64} (C0 : g_cx cX8_lastFalling (some .long) 12 RX8 wsX8_lastFalling p s m args meth c) : ∀ n : Nat, ∀ (x2 : Int32) (x3 : Int32) (x4 : Int32) (x5 : Int64) (x7 : Int64) (ls : Array Slot), f_X8_lastFalling_L10 N n x2 x3 x4 x5 x7 = some r → lv_has ls 12 [(2, .int x2), (3, .int x3), (4, .int x4), (5, .long x5), (7, .long x7)] → W p l e rm_X8_lastFalling s m args below meth c s.heap [] 0 0 (MQ below (g_SL r) args s 0 0 (fun _ => False)) (F0 m 10 ls []) := by
  intro n
  induction n with
  | zero =>
    intro x2 x3 x4 x5 x7 ls hf
    exact absurd hf (fun h => nomatch h)
  | succ n ih =>
    intro x2 x3 x4 x5 x7 ls hf
    exact w_X8_lastFalling_C10 C0 _ ih x2 x3 x4 x5 x7 ls hf
def f_X8_lastFalling (N : Nat) (x0 : Int32) (x1 : Int32) (x2 : Int32) (x3 : Int32) (x4 : Int32) : Option (Int64) :=
  o_nm (x0.toInt64 - 1) (fun (t4 : Int64) =>
  f_X8_lastFalling_L10 N N x2 x3 x4 t4 x1.toInt64)
set_option maxHeartbeats 4000000 in
set_option maxRecDepth 100000 in
theorem w_X8_lastFalling_B0 {p : Program} {l : Launch} {e : Env} {s : State} {m : MethodId} {args : Array Value} {below : List Frame} {meth : Method} {c : Code} {N : Nat} {r : Int64} (C0 : g_cx cX8_lastFalling (some .long) 12 RX8 wsX8_lastFalling p s m args meth c) : ∀ (x0 : Int32) (x1 : Int32) (x2 : Int32) (x3 : Int32) (x4 : Int32) (ls : Array Slot), f_X8_lastFalling N x0 x1 x2 x3 x4 = some r → lv_has ls 12 [(0, .int x0), (1, .int x1), (2, .int x2), (3, .int x3), (4, .int x4)] → W p l e rm_X8_lastFalling s m args below meth c s.heap [] 0 0 (MQ below (g_SL r) args s 0 0 (fun _ => False)) (F0 m 0 ls []) := by
  obtain ⟨hx, hb, hr, hml, hown, hts, hlocks⟩ := id C0
  intro x0 x1 x2 x3 x4 ls hf hl
  unfold f_X8_lastFalling at hf
  refine lv_iload_n hx hb dX8_lastFalling_0 rfl (lv_at hl 0 rfl) ?_
  refine lv_i2l hx hb dX8_lastFalling_1 rfl ?_
  refine lv_lconst (v := 1) hx hb dX8_lastFalling_2 (by decide) ?_
  refine lv_lsub hx hb dX8_lastFalling_3 ?_
  refine lv_topl (fun t4 et4 => ?_)
  replace hf := o_nm_go et4 hf
  refine lv_lstore (lv' := [(5, .long t4), (0, .int x0), (1, .int x1), (2, .int x2), (3, .int x3), (4, .int x4)]) hx hb dX8_lastFalling_4 hl (by decide) rfl (fun ls hl => ?_)
  refine lv_iload_n hx hb dX8_lastFalling_6 rfl (lv_at hl 2 rfl) ?_
  refine lv_i2l hx hb dX8_lastFalling_7 rfl ?_
  refine lv_lstore (lv' := [(7, .long x1.toInt64), (5, .long t4), (0, .int x0), (1, .int x1), (2, .int x2), (3, .int x3), (4, .int x4)]) hx hb dX8_lastFalling_8 hl (by decide) rfl (fun ls hl => ?_)
  exact w_X8_lastFalling_L10 C0 N x2 x3 x4 t4 x1.toInt64 ls hf (lv_sub hl [4, 5, 6, 1, 0] rfl)
set_option maxHeartbeats 4000000 in
set_option maxRecDepth 100000 in
theorem c_X8_lastFalling (l : Launch) {N : Nat} {x0 : Int32} {x1 : Int32} {x2 : Int32} {x3 : Int32} {x4 : Int32} {r : Int64} (hf : f_X8_lastFalling N x0 x1 x2 x3 x4 = some r) : Met l yX8_lastFalling wsX8_lastFalling rm_X8_lastFalling (g_PS [.int x0, .int x1, .int x2, .int x3, .int x4]) (g_SL r) 0 0 (fun _ => False) := by
  refine g_metS (cc := cX8_lastFalling) (maxL := 12) (ret := (some .long)) (by decide) rfl ?_
  intro p e s m below meth c C0
  have hl := lv_entry ([.int x0, .int x1, .int x2, .int x3, .int x4]) (n := 12) (Nat.le_of_ble_eq_true rfl)
  rw [lg_entry_eq]
  generalize (lg_sl ([.int x0, .int x1, .int x2, .int x3, .int x4]) ++ List.replicate (12 - (lg_sl ([.int x0, .int x1, .int x2, .int x3, .int x4])).length) Slot.unset).toArray = ls at hl ⊢
  have hl : lv_has ls 12 [(0, .int x0), (1, .int x1), (2, .int x2), (3, .int x3), (4, .int x4)] := hl
  exact w_X8_lastFalling_B0 C0 x0 x1 x2 x3 x4 ls hf (lv_sub hl [0, 1, 2, 3, 4] rfl)
/-! FloatBoxesModel.firstFalling(IIIII)J -/
abbrev rm_X8_firstFalling : Room := { frames := 6, cells := 0, slots := 0, locals := 133 }
def f_X8_firstFalling_B78 (N : Nat) (k10 : Int32 → Int32 → Int32 → Int64 → Int64 → Option (Int64)) (x2 : Int32) (x3 : Int32) (x4 : Int32) (x5 : Int64) (z0 : Int64) : Option (Int64) :=
  k10 x2 x3 x4 x5 z0
set_option maxHeartbeats 4000000 in
set_option maxRecDepth 100000 in
theorem w_X8_firstFalling_B78 {p : Program} {l : Launch} {e : Env} {s : State} {m : MethodId} {args : Array Value} {below : List Frame} {meth : Method} {c : Code} {N : Nat} {r : Int64} (C0 : g_cx cX8_firstFalling (some .long) 12 RX8 wsX8_firstFalling p s m args meth c) (k10 : Int32 → Int32 → Int32 → Int64 → Int64 → Option (Int64)) (hk10 : ∀ (x2 : Int32) (x3 : Int32) (x4 : Int32) (x5 : Int64) (x7 : Int64) (ls : Array Slot), k10 x2 x3 x4 x5 x7 = some r → lv_has ls 12 [(2, .int x2), (3, .int x3), (4, .int x4), (5, .long x5), (7, .long x7)] → W p l e rm_X8_firstFalling s m args below meth c s.heap [] 0 0 (MQ below (g_SL r) args s 0 0 (fun _ => False)) (F0 m 10 ls [])) : ∀ (x2 : Int32) (x3 : Int32) (x4 : Int32) (x5 : Int64) (z0 : Int64) (ls : Array Slot), f_X8_firstFalling_B78 N k10 x2 x3 x4 x5 z0 = some r → lv_has ls 12 [(2, .int x2), (3, .int x3), (4, .int x4), (5, .long x5)] → W p l e rm_X8_firstFalling s m args below meth c s.heap [] 0 0 (MQ below (g_SL r) args s 0 0 (fun _ => False)) (F0 m 78 ls [.long z0]) := by
  obtain ⟨hx, hb, hr, hml, hown, hts, hlocks⟩ := id C0
  intro x2 x3 x4 x5 z0 ls hf hl
  unfold f_X8_firstFalling_B78 at hf
  refine lv_lstore (lv' := [(7, .long z0), (2, .int x2), (3, .int x3), (4, .int x4), (5, .long x5)]) hx hb dX8_firstFalling_78 hl (by decide) rfl (fun ls hl => ?_)
  refine lv_goto (tgt := 10) hx hb dX8_firstFalling_80 (by decide) ?_
  exact hk10 x2 x3 x4 x5 z0 ls hf (lv_sub hl [1, 2, 3, 4, 0] rfl)
def f_X8_firstFalling_B64 (N : Nat) (k10 : Int32 → Int32 → Int32 → Int64 → Int64 → Option (Int64)) (x2 : Int32) (x3 : Int32) (x4 : Int32) (x7 : Int64) (x9 : Int64) (x11 : Int32) (z0 : Int64) : Option (Int64) :=
  if x11 = 0 then
    f_X8_firstFalling_B78 N k10 x2 x3 x4 z0 x7
  else
    f_X8_firstFalling_B78 N k10 x2 x3 x4 z0 x9
set_option maxHeartbeats 4000000 in
set_option maxRecDepth 100000 in
theorem w_X8_firstFalling_B64 {p : Program} {l : Launch} {e : Env} {s : State} {m : MethodId} {args : Array Value} {below : List Frame} {meth : Method} {c : Code} {N : Nat} {r : Int64} (C0 : g_cx cX8_firstFalling (some .long) 12 RX8 wsX8_firstFalling p s m args meth c) (k10 : Int32 → Int32 → Int32 → Int64 → Int64 → Option (Int64)) (hk10 : ∀ (x2 : Int32) (x3 : Int32) (x4 : Int32) (x5 : Int64) (x7 : Int64) (ls : Array Slot), k10 x2 x3 x4 x5 x7 = some r → lv_has ls 12 [(2, .int x2), (3, .int x3), (4, .int x4), (5, .long x5), (7, .long x7)] → W p l e rm_X8_firstFalling s m args below meth c s.heap [] 0 0 (MQ below (g_SL r) args s 0 0 (fun _ => False)) (F0 m 10 ls [])) : ∀ (x2 : Int32) (x3 : Int32) (x4 : Int32) (x7 : Int64) (x9 : Int64) (x11 : Int32) (z0 : Int64) (ls : Array Slot), f_X8_firstFalling_B64 N k10 x2 x3 x4 x7 x9 x11 z0 = some r → lv_has ls 12 [(2, .int x2), (3, .int x3), (4, .int x4), (7, .long x7), (9, .long x9), (11, .int x11)] → W p l e rm_X8_firstFalling s m args below meth c s.heap [] 0 0 (MQ below (g_SL r) args s 0 0 (fun _ => False)) (F0 m 64 ls [.long z0]) := by
  obtain ⟨hx, hb, hr, hml, hown, hts, hlocks⟩ := id C0
  intro x2 x3 x4 x7 x9 x11 z0 ls hf hl
  unfold f_X8_firstFalling_B64 at hf
  refine lv_lstore (lv' := [(5, .long z0), (2, .int x2), (3, .int x3), (4, .int x4), (7, .long x7), (9, .long x9), (11, .int x11)]) hx hb dX8_firstFalling_64 hl (by decide) rfl (fun ls hl => ?_)
  refine lv_iload hx hb dX8_firstFalling_66 (lv_at hl 6 rfl) ?_
  refine lv_if_eq (tgt := 76) hx hb dX8_firstFalling_68 (by decide) (fun c68 => ?_) (fun c68 => ?_)
  · replace hf := o_t c68 hf
    refine lv_lload hx hb dX8_firstFalling_76 (lv_at hl 4 rfl) ?_
    exact w_X8_firstFalling_B78 C0 k10 hk10 x2 x3 x4 z0 x7 ls hf (lv_sub hl [1, 2, 3, 0] rfl)
  · replace hf := o_f c68 hf
    refine lv_lload hx hb dX8_firstFalling_71 (lv_at hl 5 rfl) ?_
    refine lv_goto (tgt := 78) hx hb dX8_firstFalling_73 (by decide) ?_
    exact w_X8_firstFalling_B78 C0 k10 hk10 x2 x3 x4 z0 x9 ls hf (lv_sub hl [1, 2, 3, 0] rfl)
def f_X8_firstFalling_B48 (N : Nat) (k10 : Int32 → Int32 → Int32 → Int64 → Int64 → Option (Int64)) (x2 : Int32) (x3 : Int32) (x4 : Int32) (x5 : Int64) (x7 : Int64) (x9 : Int64) (z0 : Int32) : Option (Int64) :=
  if z0 = 0 then
    f_X8_firstFalling_B64 N k10 x2 x3 x4 x7 x9 z0 (x9 + 1)
  else
    f_X8_firstFalling_B64 N k10 x2 x3 x4 x7 x9 z0 x5
set_option maxHeartbeats 4000000 in
set_option maxRecDepth 100000 in
theorem w_X8_firstFalling_B48 {p : Program} {l : Launch} {e : Env} {s : State} {m : MethodId} {args : Array Value} {below : List Frame} {meth : Method} {c : Code} {N : Nat} {r : Int64} (C0 : g_cx cX8_firstFalling (some .long) 12 RX8 wsX8_firstFalling p s m args meth c) (k10 : Int32 → Int32 → Int32 → Int64 → Int64 → Option (Int64)) (hk10 : ∀ (x2 : Int32) (x3 : Int32) (x4 : Int32) (x5 : Int64) (x7 : Int64) (ls : Array Slot), k10 x2 x3 x4 x5 x7 = some r → lv_has ls 12 [(2, .int x2), (3, .int x3), (4, .int x4), (5, .long x5), (7, .long x7)] → W p l e rm_X8_firstFalling s m args below meth c s.heap [] 0 0 (MQ below (g_SL r) args s 0 0 (fun _ => False)) (F0 m 10 ls [])) : ∀ (x2 : Int32) (x3 : Int32) (x4 : Int32) (x5 : Int64) (x7 : Int64) (x9 : Int64) (z0 : Int32) (ls : Array Slot), f_X8_firstFalling_B48 N k10 x2 x3 x4 x5 x7 x9 z0 = some r → lv_has ls 12 [(2, .int x2), (3, .int x3), (4, .int x4), (5, .long x5), (7, .long x7), (9, .long x9)] → W p l e rm_X8_firstFalling s m args below meth c s.heap [] 0 0 (MQ below (g_SL r) args s 0 0 (fun _ => False)) (F0 m 48 ls [.int z0]) := by
  obtain ⟨hx, hb, hr, hml, hown, hts, hlocks⟩ := id C0
  intro x2 x3 x4 x5 x7 x9 z0 ls hf hl
  unfold f_X8_firstFalling_B48 at hf
  refine lv_istore (lv' := [(11, .int z0), (2, .int x2), (3, .int x3), (4, .int x4), (5, .long x5), (7, .long x7), (9, .long x9)]) hx hb dX8_firstFalling_48 hl (by decide) rfl (fun ls hl => ?_)
  refine lv_iload hx hb dX8_firstFalling_50 (lv_at hl 0 rfl) ?_
  refine lv_if_eq (tgt := 60) hx hb dX8_firstFalling_52 (by decide) (fun c52 => ?_) (fun c52 => ?_)
  · replace hf := o_t c52 hf
    refine lv_lload hx hb dX8_firstFalling_60 (lv_at hl 6 rfl) ?_
    refine lv_lconst (v := 1) hx hb dX8_firstFalling_62 (by decide) ?_
    refine lv_ladd hx hb dX8_firstFalling_63 ?_
    exact w_X8_firstFalling_B64 C0 k10 hk10 x2 x3 x4 x7 x9 z0 (x9 + 1) ls hf (lv_sub hl [1, 2, 3, 5, 6, 0] rfl)
  · replace hf := o_f c52 hf
    refine lv_lload hx hb dX8_firstFalling_55 (lv_at hl 4 rfl) ?_
    refine lv_goto (tgt := 64) hx hb dX8_firstFalling_57 (by decide) ?_
    exact w_X8_firstFalling_B64 C0 k10 hk10 x2 x3 x4 x7 x9 z0 x5 ls hf (lv_sub hl [1, 2, 3, 5, 6, 0] rfl)
def f_X8_firstFalling_C10 (N : Nat) (k10 : Int32 → Int32 → Int32 → Int64 → Int64 → Option (Int64)) (x2 : Int32) (x3 : Int32) (x4 : Int32) (x5 : Int64) (x7 : Int64) : Option (Int64) :=
  if 0 ≤ (lg_cmp x5 x7) then
    some x5
  else
    o_b1 (f_X8_floorHalf (x5 + x7)) (fun (r23 : Int64) =>
    o_b1 (f_X8_outer 1 r23.toInt32 x2 x3 0) (fun (r35 : Int32) =>
    if x4 < r35 then
      f_X8_firstFalling_B48 N k10 x2 x3 x4 x5 x7 r23 0
    else
      f_X8_firstFalling_B48 N k10 x2 x3 x4 x5 x7 r23 1))
def f_X8_firstFalling_L10 (N : Nat) : Nat → Int32 → Int32 → Int32 → Int64 → Int64 → Option (Int64)
  | 0 => fun _ _ _ _ _ => none
  | n + 1 => f_X8_firstFalling_C10 N (f_X8_firstFalling_L10 N n)
set_option maxHeartbeats 4000000 in
set_option maxRecDepth 100000 in
theorem w_X8_firstFalling_C10 {p : Program} {l : Launch} {e : Env} {s : State} {m : MethodId} {args : Array Value} {below : List Frame} {meth : Method} {c : Code} {N : Nat} {r : Int64} (C0 : g_cx cX8_firstFalling (some .long) 12 RX8 wsX8_firstFalling p s m args meth c) (k10 : Int32 → Int32 → Int32 → Int64 → Int64 → Option (Int64)) (hk10 : ∀ (x2 : Int32) (x3 : Int32) (x4 : Int32) (x5 : Int64) (x7 : Int64) (ls : Array Slot), k10 x2 x3 x4 x5 x7 = some r → lv_has ls 12 [(2, .int x2), (3, .int x3), (4, .int x4), (5, .long x5), (7, .long x7)] → W p l e rm_X8_firstFalling s m args below meth c s.heap [] 0 0 (MQ below (g_SL r) args s 0 0 (fun _ => False)) (F0 m 10 ls [])) : ∀ (x2 : Int32) (x3 : Int32) (x4 : Int32) (x5 : Int64) (x7 : Int64) (ls : Array Slot), f_X8_firstFalling_C10 N k10 x2 x3 x4 x5 x7 = some r → lv_has ls 12 [(2, .int x2), (3, .int x3), (4, .int x4), (5, .long x5), (7, .long x7)] → W p l e rm_X8_firstFalling s m args below meth c s.heap [] 0 0 (MQ below (g_SL r) args s 0 0 (fun _ => False)) (F0 m 10 ls []) := by
  obtain ⟨hx, hb, hr, hml, hown, hts, hlocks⟩ := id C0
  intro x2 x3 x4 x5 x7 ls hf hl
  unfold f_X8_firstFalling_C10 at hf
  refine lv_lload hx hb dX8_firstFalling_10 (lv_at hl 3 rfl) ?_
  refine lv_lload hx hb dX8_firstFalling_12 (lv_at hl 4 rfl) ?_
  refine W.lcmp hx hb dX8_firstFalling_14 ?_
  refine lv_if_ge (tgt := 83) hx hb dX8_firstFalling_15 (by decide) (fun c15 => ?_) (fun c15 => ?_)
  · replace hf := o_t c15 hf
    refine lv_lload hx hb dX8_firstFalling_83 (lv_at hl 3 rfl) ?_
    have q0 := Option.some.inj hf
    subst q0
    exact g_slret hx hb hr hlocks dX8_firstFalling_85
  · replace hf := o_f c15 hf
    refine lv_lload hx hb dX8_firstFalling_18 (lv_at hl 3 rfl) ?_
    refine lv_lload hx hb dX8_firstFalling_20 (lv_at hl 4 rfl) ?_
    refine lv_ladd hx hb dX8_firstFalling_22 ?_
    obtain ⟨r23, hg23, hf⟩ := o_b1_go hf
    refine g_callSl (rest := []) ⟨hx, hb, hml, hown, hts⟩ (c_X8_floorHalf l hg23) (va_cwS 1 hts gX8_firstFalling_X8_floorHalf rfl rfl rfl (by decide +kernel) ⟨Nat.le_of_ble_eq_true rfl, Nat.le_of_ble_eq_true rfl⟩) rfl hl.1 rfl (Nat.le_of_ble_eq_true rfl) dX8_firstFalling_23 ?_
    refine lv_lstore (lv' := [(9, .long r23), (2, .int x2), (3, .int x3), (4, .int x4), (5, .long x5), (7, .long x7)]) hx hb dX8_firstFalling_26 hl (by decide) rfl (fun ls hl => ?_)
    refine lv_iconst (v := 1) hx hb dX8_firstFalling_28 (by decide) ?_
    refine lv_lload hx hb dX8_firstFalling_29 (lv_at hl 0 rfl) ?_
    refine lv_l2i hx hb dX8_firstFalling_31 rfl ?_
    refine lv_iload_n hx hb dX8_firstFalling_32 rfl (lv_at hl 1 rfl) ?_
    refine lv_iload_n hx hb dX8_firstFalling_33 rfl (lv_at hl 2 rfl) ?_
    refine lv_iconst (v := 0) hx hb dX8_firstFalling_34 (by decide) ?_
    obtain ⟨r35, hg35, hf⟩ := o_b1_go hf
    refine g_callSi (rest := []) ⟨hx, hb, hml, hown, hts⟩ (c_X8_outer l hg35) (va_cwS 5 hts gX8_firstFalling_X8_outer rfl rfl rfl (by decide +kernel) ⟨Nat.le_of_ble_eq_true rfl, Nat.le_of_ble_eq_true rfl⟩) rfl hl.1 rfl (Nat.le_of_ble_eq_true rfl) dX8_firstFalling_35 ?_
    refine lv_iload hx hb dX8_firstFalling_38 (lv_at hl 3 rfl) ?_
    refine lv_icmp_gt (tgt := 47) hx hb dX8_firstFalling_40 (by decide) (fun c40 => ?_) (fun c40 => ?_)
    · replace hf := o_t c40 hf
      refine lv_iconst (v := 0) hx hb dX8_firstFalling_47 (by decide) ?_
      exact w_X8_firstFalling_B48 C0 k10 hk10 x2 x3 x4 x5 x7 r23 0 ls hf (lv_sub hl [1, 2, 3, 4, 5, 0] rfl)
    · replace hf := o_f c40 hf
      refine lv_iconst (v := 1) hx hb dX8_firstFalling_43 (by decide) ?_
      refine lv_goto (tgt := 48) hx hb dX8_firstFalling_44 (by decide) ?_
      exact w_X8_firstFalling_B48 C0 k10 hk10 x2 x3 x4 x5 x7 r23 1 ls hf (lv_sub hl [1, 2, 3, 4, 5, 0] rfl)
set_option maxHeartbeats 4000000 in
set_option maxRecDepth 100000 in
theorem w_X8_firstFalling_L10 {p : Program} {l : Launch} {e : Env} {s : State} {m : MethodId} {args : Array Value} {below : List Frame} {meth : Method} {c : Code} {N : Nat} {r : Int64} (C0 : g_cx cX8_firstFalling (some .long) 12 RX8 wsX8_firstFalling p s m args meth c) : ∀ n : Nat, ∀ (x2 : Int32) (x3 : Int32) (x4 : Int32) (x5 : Int64) (x7 : Int64) (ls : Array Slot), f_X8_firstFalling_L10 N n x2 x3 x4 x5 x7 = some r → lv_has ls 12 [(2, .int x2), (3, .int x3), (4, .int x4), (5, .long x5), (7, .long x7)] → W p l e rm_X8_firstFalling s m args below meth c s.heap [] 0 0 (MQ below (g_SL r) args s 0 0 (fun _ => False)) (F0 m 10 ls []) := by
  intro n
  induction n with
  | zero =>
    intro x2 x3 x4 x5 x7 ls hf
    exact absurd hf (fun h => nomatch h)
  | succ n ih =>
    intro x2 x3 x4 x5 x7 ls hf
    exact w_X8_firstFalling_C10 C0 _ ih x2 x3 x4 x5 x7 ls hf
def f_X8_firstFalling (N : Nat) (x0 : Int32) (x1 : Int32) (x2 : Int32) (x3 : Int32) (x4 : Int32) : Option (Int64) :=
  o_nm (x1.toInt64 + 1) (fun (t8 : Int64) =>
  f_X8_firstFalling_L10 N N x2 x3 x4 x0.toInt64 t8)
set_option maxHeartbeats 4000000 in
set_option maxRecDepth 100000 in
theorem w_X8_firstFalling_B0 {p : Program} {l : Launch} {e : Env} {s : State} {m : MethodId} {args : Array Value} {below : List Frame} {meth : Method} {c : Code} {N : Nat} {r : Int64} (C0 : g_cx cX8_firstFalling (some .long) 12 RX8 wsX8_firstFalling p s m args meth c) : ∀ (x0 : Int32) (x1 : Int32) (x2 : Int32) (x3 : Int32) (x4 : Int32) (ls : Array Slot), f_X8_firstFalling N x0 x1 x2 x3 x4 = some r → lv_has ls 12 [(0, .int x0), (1, .int x1), (2, .int x2), (3, .int x3), (4, .int x4)] → W p l e rm_X8_firstFalling s m args below meth c s.heap [] 0 0 (MQ below (g_SL r) args s 0 0 (fun _ => False)) (F0 m 0 ls []) := by
  obtain ⟨hx, hb, hr, hml, hown, hts, hlocks⟩ := id C0
  intro x0 x1 x2 x3 x4 ls hf hl
  unfold f_X8_firstFalling at hf
  refine lv_iload_n hx hb dX8_firstFalling_0 rfl (lv_at hl 0 rfl) ?_
  refine lv_i2l hx hb dX8_firstFalling_1 rfl ?_
  refine lv_lstore (lv' := [(5, .long x0.toInt64), (0, .int x0), (1, .int x1), (2, .int x2), (3, .int x3), (4, .int x4)]) hx hb dX8_firstFalling_2 hl (by decide) rfl (fun ls hl => ?_)
  refine lv_iload_n hx hb dX8_firstFalling_4 rfl (lv_at hl 2 rfl) ?_
  refine lv_i2l hx hb dX8_firstFalling_5 rfl ?_
  refine lv_lconst (v := 1) hx hb dX8_firstFalling_6 (by decide) ?_
  refine lv_ladd hx hb dX8_firstFalling_7 ?_
  refine lv_topl (fun t8 et8 => ?_)
  replace hf := o_nm_go et8 hf
  refine lv_lstore (lv' := [(7, .long t8), (5, .long x0.toInt64), (0, .int x0), (1, .int x1), (2, .int x2), (3, .int x3), (4, .int x4)]) hx hb dX8_firstFalling_8 hl (by decide) rfl (fun ls hl => ?_)
  exact w_X8_firstFalling_L10 C0 N x2 x3 x4 x0.toInt64 t8 ls hf (lv_sub hl [4, 5, 6, 1, 0] rfl)
set_option maxHeartbeats 4000000 in
set_option maxRecDepth 100000 in
theorem c_X8_firstFalling (l : Launch) {N : Nat} {x0 : Int32} {x1 : Int32} {x2 : Int32} {x3 : Int32} {x4 : Int32} {r : Int64} (hf : f_X8_firstFalling N x0 x1 x2 x3 x4 = some r) : Met l yX8_firstFalling wsX8_firstFalling rm_X8_firstFalling (g_PS [.int x0, .int x1, .int x2, .int x3, .int x4]) (g_SL r) 0 0 (fun _ => False) := by
  refine g_metS (cc := cX8_firstFalling) (maxL := 12) (ret := (some .long)) (by decide) rfl ?_
  intro p e s m below meth c C0
  have hl := lv_entry ([.int x0, .int x1, .int x2, .int x3, .int x4]) (n := 12) (Nat.le_of_ble_eq_true rfl)
  rw [lg_entry_eq]
  generalize (lg_sl ([.int x0, .int x1, .int x2, .int x3, .int x4]) ++ List.replicate (12 - (lg_sl ([.int x0, .int x1, .int x2, .int x3, .int x4])).length) Slot.unset).toArray = ls at hl ⊢
  have hl : lv_has ls 12 [(0, .int x0), (1, .int x1), (2, .int x2), (3, .int x3), (4, .int x4)] := hl
  exact w_X8_firstFalling_B0 C0 x0 x1 x2 x3 x4 ls hf (lv_sub hl [0, 1, 2, 3, 4] rfl)
/-! FloatBoxesModel.keepsSummand(III)V -/
abbrev rm_X8_keepsSummand : Room := { frames := 7, cells := 0, slots := 0, locals := 165 }
abbrev ww_X8_keepsSummand (cI cM : ClassId) (a_this a_this_all a_this_past a_this_refused a_this_box a_this_row a_this_text a_this_numbers a_this_before : Nat) (v_states : Int32) (v_empty : Int32) (v_cut : Int32) (v_rowMany : Int32) (v_taken : Int32) (v_found : Int32) (v_textLong : Int32) (v_at : Int32) (v_stopped : Int32) (v_box : Nat → Int32) : va_W := [(a_this, .inr (6, [.ref a_this_all, .ref a_this_past, .int v_states, .ref a_this_refused, .ref a_this_box, .int v_empty, .int v_cut, .ref a_this_row, .int v_rowMany, .int v_taken, .int v_found, .ref a_this_text, .int v_textLong, .int v_at, .ref a_this_numbers, .int v_stopped, .ref a_this_before])), (a_this_box, .inl (cI, 12, .inl v_box))]
def f_X8_keepsSummand (N : Nat) (v_empty : Int32) (v_cut : Int32) (v_box : Nat → Int32) (x1 : Int32) (x2 : Int32) (x3 : Int32) : Option (Int32 × Int32 × (Nat → Int32)) :=
  if v_empty = 0 then
    o_b1 (f_X8_high v_box x2) (fun (r10 : Int32) =>
    o_b1 (f_X8_low v_box x2) (fun (r17 : Int32) =>
    o_b1 (f_X8_low v_box x1) (fun (r25 : Int32) =>
    o_b1 (f_X8_high v_box x1) (fun (r30 : Int32) =>
    o_b1 (f_X8_low v_box x3) (fun (r39 : Int32) =>
    o_b1 (f_X8_firstRising N 0 r25 r30 r10 r10 r39) (fun (r42 : Int64) =>
    o_b1 (f_X8_low v_box x1) (fun (r50 : Int32) =>
    o_b1 (f_X8_high v_box x1) (fun (r55 : Int32) =>
    o_b1 (f_X8_high v_box x3) (fun (r64 : Int32) =>
    o_b1 (f_X8_lastRising N 0 r50 r55 r17 r17 r64) (fun (r67 : Int64) =>
    o_b3 (f_X8_keeps v_empty v_cut v_box x1 r42 r67) (fun (v_empty_78 : Int32) (v_cut_78 : Int32) (v_box_78 : Nat → Int32) =>
    some (v_empty_78, v_cut_78, v_box_78))))))))))))
  else
    some (v_empty, v_cut, v_box)
set_option maxHeartbeats 4000000 in
set_option maxRecDepth 100000 in
theorem w_X8_keepsSummand_B0 {p : Program} {l : Launch} {e : Env} {s : State} {m : MethodId} {args : Array Value} {below : List Frame} {meth : Method} {c : Code} {D : va_G} {cI cM : ClassId} {A : Nat → Prop} {a_this a_this_all a_this_past a_this_refused a_this_box a_this_row a_this_text a_this_numbers a_this_before : Nat} {v_states : Int32} {v_rowMany : Int32} {v_taken : Int32} {v_found : Int32} {v_textLong : Int32} {v_at : Int32} {v_stopped : Int32} {N : Nat} {o_empty : Int32} {o_cut : Int32} {o_box : Nat → Int32} (C0 : g_cx cX8_keepsSummand none 10 RX8 wsX8_keepsSummand p s m args meth c) (hA : ∀ q, s.heap.size ≤ q → A q) (hK : va_K D vwCl (g_tys cI cM) s) : ∀ (v_empty : Int32) (v_cut : Int32) (v_box : Nat → Int32) (x1 : Int32) (x2 : Int32) (x3 : Int32) (H : Heap) (locs : List Loc) (ls : Array Slot), f_X8_keepsSummand N v_empty v_cut v_box x1 x2 x3 = some (o_empty, o_cut, o_box) → va_P D vwCl (ww_X8_keepsSummand cI cM a_this a_this_all a_this_past a_this_refused a_this_box a_this_row a_this_text a_this_numbers a_this_before v_states v_empty v_cut v_rowMany v_taken v_found v_textLong v_at v_stopped v_box) H → va_D A (ww_X8_keepsSummand cI cM a_this a_this_all a_this_past a_this_refused a_this_box a_this_row a_this_text a_this_numbers a_this_before v_states v_empty v_cut v_rowMany v_taken v_found v_textLong v_at v_stopped v_box) → va_S A s.heap H locs → lv_has ls 10 [(0, .ref a_this), (1, .int x1), (2, .int x2), (3, .int x3)] → W p l e rm_X8_keepsSummand s m args below meth c H locs 0 0 (MQ below (g_QV D (g_tys cI cM) A (ww_X8_keepsSummand cI cM a_this a_this_all a_this_past a_this_refused a_this_box a_this_row a_this_text a_this_numbers a_this_before v_states o_empty o_cut v_rowMany v_taken v_found v_textLong v_at v_stopped o_box)) args s 0 0 A) (F0 m 0 ls []) := by
  obtain ⟨hx, hb, hr, hml, hown, hts, hlocks⟩ := id C0
  intro v_empty v_cut v_box x1 x2 x3 H locs ls hf hP hD hS hl
  unfold f_X8_keepsSummand at hf
  refine lv_aload_n hx hb dX8_keepsSummand_0 rfl (lv_at hl 0 rfl) ?_
  refine va_get (D := D) (ci := 6) (v := .int v_empty) (C := RX8) (T := TX8) (N := 17) hx hb hts (fun _ h => (List.mem_cons_of_mem _ (List.mem_append_right _ h))) hown hK hP 0 rfl rfl 5 (by decide) (hts (.fieldLink RX8 124 "FloatBoxesModel" "empty" "Z") (List.mem_cons_of_mem _ (List.mem_append_left _ (List.mem_append_left _ (List.mem_of_getElem? (i := 0) rfl))))) (fun _ h9 => h9) rfl dX8_keepsSummand_1 ?_
  refine lv_if_eq (tgt := 8) hx hb dX8_keepsSummand_4 (by decide) (fun c4 => ?_) (fun c4 => ?_)
  · replace hf := o_t c4 hf
    refine lv_aload_n hx hb dX8_keepsSummand_8 rfl (lv_at hl 0 rfl) ?_
    refine lv_iload_n hx hb dX8_keepsSummand_9 rfl (lv_at hl 2 rfl) ?_
    obtain ⟨r10, hg10, hf⟩ := o_b1_go hf
    refine g_callVi (wn := (ww_X8_keepsSummand cI cM a_this a_this_all a_this_past a_this_refused a_this_box a_this_row a_this_text a_this_numbers a_this_before v_states v_empty v_cut v_rowMany v_taken v_found v_textLong v_at v_stopped v_box)) (rest := []) ⟨hx, hb, hml, hown, hts⟩ (c_X8_high l D cI cM a_this a_this_all a_this_past a_this_refused a_this_box a_this_row a_this_text a_this_numbers a_this_before H.size v_states v_empty v_cut v_rowMany v_taken v_found v_textLong v_at v_stopped v_box hg10) (cwV 1 hts gX8_keepsSummand_X8_high rfl rfl rfl (by decide +kernel) ⟨Nat.le_of_ble_eq_true rfl, Nat.le_of_ble_eq_true rfl⟩) hK hP hD hS hA [0, 1] [] [0, 1] rfl rfl rfl rfl rfl rfl (by decide) rfl rfl rfl hl.1 rfl (Nat.le_of_ble_eq_true rfl) dX8_keepsSummand_10 (fun H locs hP hD hS => ?_)
    refine lv_istore (lv' := [(4, .int r10), (0, .ref a_this), (1, .int x1), (2, .int x2), (3, .int x3)]) hx hb dX8_keepsSummand_13 hl (by decide) rfl (fun ls hl => ?_)
    refine lv_aload_n hx hb dX8_keepsSummand_15 rfl (lv_at hl 1 rfl) ?_
    refine lv_iload_n hx hb dX8_keepsSummand_16 rfl (lv_at hl 3 rfl) ?_
    obtain ⟨r17, hg17, hf⟩ := o_b1_go hf
    refine g_callVi (wn := (ww_X8_keepsSummand cI cM a_this a_this_all a_this_past a_this_refused a_this_box a_this_row a_this_text a_this_numbers a_this_before v_states v_empty v_cut v_rowMany v_taken v_found v_textLong v_at v_stopped v_box)) (rest := []) ⟨hx, hb, hml, hown, hts⟩ (c_X8_low l D cI cM a_this a_this_all a_this_past a_this_refused a_this_box a_this_row a_this_text a_this_numbers a_this_before H.size v_states v_empty v_cut v_rowMany v_taken v_found v_textLong v_at v_stopped v_box hg17) (cwV 1 hts gX8_keepsSummand_X8_low rfl rfl rfl (by decide +kernel) ⟨Nat.le_of_ble_eq_true rfl, Nat.le_of_ble_eq_true rfl⟩) hK hP hD hS hA [0, 1] [] [0, 1] rfl rfl rfl rfl rfl rfl (by decide) rfl rfl rfl hl.1 rfl (Nat.le_of_ble_eq_true rfl) dX8_keepsSummand_17 (fun H locs hP hD hS => ?_)
    refine lv_istore (lv' := [(5, .int r17), (4, .int r10), (0, .ref a_this), (1, .int x1), (2, .int x2), (3, .int x3)]) hx hb dX8_keepsSummand_20 hl (by decide) rfl (fun ls hl => ?_)
    refine lv_iconst (v := 0) hx hb dX8_keepsSummand_22 (by decide) ?_
    refine lv_aload_n hx hb dX8_keepsSummand_23 rfl (lv_at hl 2 rfl) ?_
    refine lv_iload_n hx hb dX8_keepsSummand_24 rfl (lv_at hl 3 rfl) ?_
    obtain ⟨r25, hg25, hf⟩ := o_b1_go hf
    refine g_callVi (wn := (ww_X8_keepsSummand cI cM a_this a_this_all a_this_past a_this_refused a_this_box a_this_row a_this_text a_this_numbers a_this_before v_states v_empty v_cut v_rowMany v_taken v_found v_textLong v_at v_stopped v_box)) (rest := [.int 0]) ⟨hx, hb, hml, hown, hts⟩ (c_X8_low l D cI cM a_this a_this_all a_this_past a_this_refused a_this_box a_this_row a_this_text a_this_numbers a_this_before H.size v_states v_empty v_cut v_rowMany v_taken v_found v_textLong v_at v_stopped v_box hg25) (cwV 1 hts gX8_keepsSummand_X8_low rfl rfl rfl (by decide +kernel) ⟨Nat.le_of_ble_eq_true rfl, Nat.le_of_ble_eq_true rfl⟩) hK hP hD hS hA [0, 1] [] [0, 1] rfl rfl rfl rfl rfl rfl (by decide) rfl rfl rfl hl.1 rfl (Nat.le_of_ble_eq_true rfl) dX8_keepsSummand_25 (fun H locs hP hD hS => ?_)
    refine lv_aload_n hx hb dX8_keepsSummand_28 rfl (lv_at hl 2 rfl) ?_
    refine lv_iload_n hx hb dX8_keepsSummand_29 rfl (lv_at hl 3 rfl) ?_
    obtain ⟨r30, hg30, hf⟩ := o_b1_go hf
    refine g_callVi (wn := (ww_X8_keepsSummand cI cM a_this a_this_all a_this_past a_this_refused a_this_box a_this_row a_this_text a_this_numbers a_this_before v_states v_empty v_cut v_rowMany v_taken v_found v_textLong v_at v_stopped v_box)) (rest := [.int r25, .int 0]) ⟨hx, hb, hml, hown, hts⟩ (c_X8_high l D cI cM a_this a_this_all a_this_past a_this_refused a_this_box a_this_row a_this_text a_this_numbers a_this_before H.size v_states v_empty v_cut v_rowMany v_taken v_found v_textLong v_at v_stopped v_box hg30) (cwV 1 hts gX8_keepsSummand_X8_high rfl rfl rfl (by decide +kernel) ⟨Nat.le_of_ble_eq_true rfl, Nat.le_of_ble_eq_true rfl⟩) hK hP hD hS hA [0, 1] [] [0, 1] rfl rfl rfl rfl rfl rfl (by decide) rfl rfl rfl hl.1 rfl (Nat.le_of_ble_eq_true rfl) dX8_keepsSummand_30 (fun H locs hP hD hS => ?_)
    refine lv_iload hx hb dX8_keepsSummand_33 (lv_at hl 1 rfl) ?_
    refine lv_iload hx hb dX8_keepsSummand_35 (lv_at hl 1 rfl) ?_
    refine lv_aload_n hx hb dX8_keepsSummand_37 rfl (lv_at hl 2 rfl) ?_
    refine lv_iload_n hx hb dX8_keepsSummand_38 rfl (lv_at hl 5 rfl) ?_
    obtain ⟨r39, hg39, hf⟩ := o_b1_go hf
    refine g_callVi (wn := (ww_X8_keepsSummand cI cM a_this a_this_all a_this_past a_this_refused a_this_box a_this_row a_this_text a_this_numbers a_this_before v_states v_empty v_cut v_rowMany v_taken v_found v_textLong v_at v_stopped v_box)) (rest := [.int r10, .int r10, .int r30, .int r25, .int 0]) ⟨hx, hb, hml, hown, hts⟩ (c_X8_low l D cI cM a_this a_this_all a_this_past a_this_refused a_this_box a_this_row a_this_text a_this_numbers a_this_before H.size v_states v_empty v_cut v_rowMany v_taken v_found v_textLong v_at v_stopped v_box hg39) (cwV 1 hts gX8_keepsSummand_X8_low rfl rfl rfl (by decide +kernel) ⟨Nat.le_of_ble_eq_true rfl, Nat.le_of_ble_eq_true rfl⟩) hK hP hD hS hA [0, 1] [] [0, 1] rfl rfl rfl rfl rfl rfl (by decide) rfl rfl rfl hl.1 rfl (Nat.le_of_ble_eq_true rfl) dX8_keepsSummand_39 (fun H locs hP hD hS => ?_)
    obtain ⟨r42, hg42, hf⟩ := o_b1_go hf
    refine g_callSl (rest := []) ⟨hx, hb, hml, hown, hts⟩ (c_X8_firstRising l hg42) (va_cwS 6 hts gX8_keepsSummand_X8_firstRising rfl rfl rfl (by decide +kernel) ⟨Nat.le_of_ble_eq_true rfl, Nat.le_of_ble_eq_true rfl⟩) rfl hl.1 rfl (Nat.le_of_ble_eq_true rfl) dX8_keepsSummand_42 ?_
    refine lv_lstore (lv' := [(6, .long r42), (5, .int r17), (4, .int r10), (0, .ref a_this), (1, .int x1), (2, .int x2), (3, .int x3)]) hx hb dX8_keepsSummand_45 hl (by decide) rfl (fun ls hl => ?_)
    refine lv_iconst (v := 0) hx hb dX8_keepsSummand_47 (by decide) ?_
    refine lv_aload_n hx hb dX8_keepsSummand_48 rfl (lv_at hl 3 rfl) ?_
    refine lv_iload_n hx hb dX8_keepsSummand_49 rfl (lv_at hl 4 rfl) ?_
    obtain ⟨r50, hg50, hf⟩ := o_b1_go hf
    refine g_callVi (wn := (ww_X8_keepsSummand cI cM a_this a_this_all a_this_past a_this_refused a_this_box a_this_row a_this_text a_this_numbers a_this_before v_states v_empty v_cut v_rowMany v_taken v_found v_textLong v_at v_stopped v_box)) (rest := [.int 0]) ⟨hx, hb, hml, hown, hts⟩ (c_X8_low l D cI cM a_this a_this_all a_this_past a_this_refused a_this_box a_this_row a_this_text a_this_numbers a_this_before H.size v_states v_empty v_cut v_rowMany v_taken v_found v_textLong v_at v_stopped v_box hg50) (cwV 1 hts gX8_keepsSummand_X8_low rfl rfl rfl (by decide +kernel) ⟨Nat.le_of_ble_eq_true rfl, Nat.le_of_ble_eq_true rfl⟩) hK hP hD hS hA [0, 1] [] [0, 1] rfl rfl rfl rfl rfl rfl (by decide) rfl rfl rfl hl.1 rfl (Nat.le_of_ble_eq_true rfl) dX8_keepsSummand_50 (fun H locs hP hD hS => ?_)
    refine lv_aload_n hx hb dX8_keepsSummand_53 rfl (lv_at hl 3 rfl) ?_
    refine lv_iload_n hx hb dX8_keepsSummand_54 rfl (lv_at hl 4 rfl) ?_
    obtain ⟨r55, hg55, hf⟩ := o_b1_go hf
    refine g_callVi (wn := (ww_X8_keepsSummand cI cM a_this a_this_all a_this_past a_this_refused a_this_box a_this_row a_this_text a_this_numbers a_this_before v_states v_empty v_cut v_rowMany v_taken v_found v_textLong v_at v_stopped v_box)) (rest := [.int r50, .int 0]) ⟨hx, hb, hml, hown, hts⟩ (c_X8_high l D cI cM a_this a_this_all a_this_past a_this_refused a_this_box a_this_row a_this_text a_this_numbers a_this_before H.size v_states v_empty v_cut v_rowMany v_taken v_found v_textLong v_at v_stopped v_box hg55) (cwV 1 hts gX8_keepsSummand_X8_high rfl rfl rfl (by decide +kernel) ⟨Nat.le_of_ble_eq_true rfl, Nat.le_of_ble_eq_true rfl⟩) hK hP hD hS hA [0, 1] [] [0, 1] rfl rfl rfl rfl rfl rfl (by decide) rfl rfl rfl hl.1 rfl (Nat.le_of_ble_eq_true rfl) dX8_keepsSummand_55 (fun H locs hP hD hS => ?_)
    refine lv_iload hx hb dX8_keepsSummand_58 (lv_at hl 1 rfl) ?_
    refine lv_iload hx hb dX8_keepsSummand_60 (lv_at hl 1 rfl) ?_
    refine lv_aload_n hx hb dX8_keepsSummand_62 rfl (lv_at hl 3 rfl) ?_
    refine lv_iload_n hx hb dX8_keepsSummand_63 rfl (lv_at hl 6 rfl) ?_
    obtain ⟨r64, hg64, hf⟩ := o_b1_go hf
    refine g_callVi (wn := (ww_X8_keepsSummand cI cM a_this a_this_all a_this_past a_this_refused a_this_box a_this_row a_this_text a_this_numbers a_this_before v_states v_empty v_cut v_rowMany v_taken v_found v_textLong v_at v_stopped v_box)) (rest := [.int r17, .int r17, .int r55, .int r50, .int 0]) ⟨hx, hb, hml, hown, hts⟩ (c_X8_high l D cI cM a_this a_this_all a_this_past a_this_refused a_this_box a_this_row a_this_text a_this_numbers a_this_before H.size v_states v_empty v_cut v_rowMany v_taken v_found v_textLong v_at v_stopped v_box hg64) (cwV 1 hts gX8_keepsSummand_X8_high rfl rfl rfl (by decide +kernel) ⟨Nat.le_of_ble_eq_true rfl, Nat.le_of_ble_eq_true rfl⟩) hK hP hD hS hA [0, 1] [] [0, 1] rfl rfl rfl rfl rfl rfl (by decide) rfl rfl rfl hl.1 rfl (Nat.le_of_ble_eq_true rfl) dX8_keepsSummand_64 (fun H locs hP hD hS => ?_)
    obtain ⟨r67, hg67, hf⟩ := o_b1_go hf
    refine g_callSl (rest := []) ⟨hx, hb, hml, hown, hts⟩ (c_X8_lastRising l hg67) (va_cwS 6 hts gX8_keepsSummand_X8_lastRising rfl rfl rfl (by decide +kernel) ⟨Nat.le_of_ble_eq_true rfl, Nat.le_of_ble_eq_true rfl⟩) rfl hl.1 rfl (Nat.le_of_ble_eq_true rfl) dX8_keepsSummand_67 ?_
    refine lv_lstore (lv' := [(8, .long r67), (6, .long r42), (5, .int r17), (4, .int r10), (0, .ref a_this), (1, .int x1), (2, .int x2), (3, .int x3)]) hx hb dX8_keepsSummand_70 hl (by decide) rfl (fun ls hl => ?_)
    refine lv_aload_n hx hb dX8_keepsSummand_72 rfl (lv_at hl 4 rfl) ?_
    refine lv_iload_n hx hb dX8_keepsSummand_73 rfl (lv_at hl 5 rfl) ?_
    refine lv_lload hx hb dX8_keepsSummand_74 (lv_at hl 1 rfl) ?_
    refine lv_lload hx hb dX8_keepsSummand_76 (lv_at hl 0 rfl) ?_
    obtain ⟨v_empty_78, v_cut_78, v_box_78, hg78, hf⟩ := o_b3_go hf
    refine g_callVv (wn := (ww_X8_keepsSummand cI cM a_this a_this_all a_this_past a_this_refused a_this_box a_this_row a_this_text a_this_numbers a_this_before v_states v_empty_78 v_cut_78 v_rowMany v_taken v_found v_textLong v_at v_stopped v_box_78)) (rest := []) ⟨hx, hb, hml, hown, hts⟩ (c_X8_keeps l D cI cM a_this a_this_all a_this_past a_this_refused a_this_box a_this_row a_this_text a_this_numbers a_this_before H.size v_states v_empty v_cut v_rowMany v_taken v_found v_textLong v_at v_stopped v_box hg78) (cwV 3 hts gX8_keepsSummand_X8_keeps rfl rfl rfl (by decide +kernel) ⟨Nat.le_of_ble_eq_true rfl, Nat.le_of_ble_eq_true rfl⟩) hK hP hD hS hA [0, 1] [] [0, 1] rfl rfl rfl rfl rfl rfl (by decide) rfl rfl rfl hl.1 rfl (Nat.le_of_ble_eq_true rfl) dX8_keepsSummand_78 (fun H locs hP hD hS => ?_)
    obtain ⟨q0, y0⟩ := o_rp hf
    obtain ⟨q1, y1⟩ := o_rp y0
    have q2 := Option.some.inj y1
    subst q0 q1 q2
    exact g_vret hx hb hr hlocks hP hD hK hS dX8_keepsSummand_81
  · replace hf := o_f c4 hf
    obtain ⟨q0, y0⟩ := o_rp hf
    obtain ⟨q1, y1⟩ := o_rp y0
    have q2 := Option.some.inj y1
    subst q0 q1 q2
    exact g_vret hx hb hr hlocks hP hD hK hS dX8_keepsSummand_7
set_option maxHeartbeats 4000000 in
set_option maxRecDepth 100000 in
theorem c_X8_keepsSummand (l : Launch) (D : va_G) (cI cM : ClassId) (a_this a_this_all a_this_past a_this_refused a_this_box a_this_row a_this_text a_this_numbers a_this_before : Nat) (sz : Nat) (v_states : Int32) (v_empty : Int32) (v_cut : Int32) (v_rowMany : Int32) (v_taken : Int32) (v_found : Int32) (v_textLong : Int32) (v_at : Int32) (v_stopped : Int32) (v_box : Nat → Int32) {N : Nat} {x1 : Int32} {x2 : Int32} {x3 : Int32} {o_empty : Int32} {o_cut : Int32} {o_box : Nat → Int32} (hf : f_X8_keepsSummand N v_empty v_cut v_box x1 x2 x3 = some (o_empty, o_cut, o_box)) : Met l yX8_keepsSummand wsX8_keepsSummand rm_X8_keepsSummand (g_Pc D (g_tys cI cM) (ww_X8_keepsSummand cI cM a_this a_this_all a_this_past a_this_refused a_this_box a_this_row a_this_text a_this_numbers a_this_before v_states v_empty v_cut v_rowMany v_taken v_found v_textLong v_at v_stopped v_box) sz [.ref a_this, .int x1, .int x2, .int x3]) (g_QV D (g_tys cI cM) (va_A (ww_X8_keepsSummand cI cM a_this a_this_all a_this_past a_this_refused a_this_box a_this_row a_this_text a_this_numbers a_this_before v_states v_empty v_cut v_rowMany v_taken v_found v_textLong v_at v_stopped v_box) sz) (ww_X8_keepsSummand cI cM a_this a_this_all a_this_past a_this_refused a_this_box a_this_row a_this_text a_this_numbers a_this_before v_states o_empty o_cut v_rowMany v_taken v_found v_textLong v_at v_stopped o_box)) 0 0 (va_A (ww_X8_keepsSummand cI cM a_this a_this_all a_this_past a_this_refused a_this_box a_this_row a_this_text a_this_numbers a_this_before v_states v_empty v_cut v_rowMany v_taken v_found v_textLong v_at v_stopped v_box) sz) := by
  refine g_met (cc := cX8_keepsSummand) (maxL := 10) (ret := none) (Qc := fun D A => g_QV D (g_tys cI cM) A (ww_X8_keepsSummand cI cM a_this a_this_all a_this_past a_this_refused a_this_box a_this_row a_this_text a_this_numbers a_this_before v_states o_empty o_cut v_rowMany v_taken v_found v_textLong v_at v_stopped o_box)) (by decide) rfl ?_
  intro p e s m below meth c A C0 hA hK hP hD
  have hl := lv_entry ([.ref a_this, .int x1, .int x2, .int x3]) (n := 10) (Nat.le_of_ble_eq_true rfl)
  rw [lg_entry_eq]
  generalize (lg_sl ([.ref a_this, .int x1, .int x2, .int x3]) ++ List.replicate (10 - (lg_sl ([.ref a_this, .int x1, .int x2, .int x3])).length) Slot.unset).toArray = ls at hl ⊢
  have hl : lv_has ls 10 [(0, .ref a_this), (1, .int x1), (2, .int x2), (3, .int x3)] := hl
  exact w_X8_keepsSummand_B0 C0 hA hK v_empty v_cut v_box x1 x2 x3 s.heap [] ls hf hP hD va_S.rf (lv_sub hl [0, 1, 2, 3] rfl)
/-! FloatBoxesModel.cutsSum(III)V -/
abbrev rm_X8_cutsSum : Room := { frames := 8, cells := 0, slots := 0, locals := 194 }
abbrev ww_X8_cutsSum (cI cM : ClassId) (a_this a_this_all a_this_past a_this_refused a_this_box a_this_row a_this_text a_this_numbers a_this_before : Nat) (v_states : Int32) (v_empty : Int32) (v_cut : Int32) (v_rowMany : Int32) (v_taken : Int32) (v_found : Int32) (v_textLong : Int32) (v_at : Int32) (v_stopped : Int32) (v_box : Nat → Int32) : va_W := [(a_this, .inr (6, [.ref a_this_all, .ref a_this_past, .int v_states, .ref a_this_refused, .ref a_this_box, .int v_empty, .int v_cut, .ref a_this_row, .int v_rowMany, .int v_taken, .int v_found, .ref a_this_text, .int v_textLong, .int v_at, .ref a_this_numbers, .int v_stopped, .ref a_this_before])), (a_this_box, .inl (cI, 12, .inl v_box))]
def f_X8_cutsSum (N : Nat) (v_empty : Int32) (v_cut : Int32) (v_box : Nat → Int32) (x1 : Int32) (x2 : Int32) (x3 : Int32) : Option (Int32 × Int32 × (Nat → Int32)) :=
  o_b1 (f_X8_low v_box x1) (fun (r4 : Int32) =>
  o_b1 (f_X8_low v_box x2) (fun (r9 : Int32) =>
  o_b1 (f_X8_sum r4 r9) (fun (r12 : Int32) =>
  o_b1 (f_X8_high v_box x1) (fun (r18 : Int32) =>
  o_b1 (f_X8_high v_box x2) (fun (r23 : Int32) =>
  o_b1 (f_X8_sum r18 r23) (fun (r26 : Int32) =>
  o_b3 (f_X8_keeps v_empty v_cut v_box x3 r12.toInt64 r26.toInt64) (fun (v_empty_30 : Int32) (v_cut_30 : Int32) (v_box_30 : Nat → Int32) =>
  o_b3 (f_X8_keepsSummand N v_empty_30 v_cut_30 v_box_30 x1 x2 x3) (fun (v_empty_37 : Int32) (v_cut_37 : Int32) (v_box_37 : Nat → Int32) =>
  o_b3 (f_X8_keepsSummand N v_empty_37 v_cut_37 v_box_37 x2 x1 x3) (fun (v_empty_44 : Int32) (v_cut_44 : Int32) (v_box_44 : Nat → Int32) =>
  some (v_empty_44, v_cut_44, v_box_44))))))))))
set_option maxHeartbeats 4000000 in
set_option maxRecDepth 100000 in
theorem w_X8_cutsSum_B0 {p : Program} {l : Launch} {e : Env} {s : State} {m : MethodId} {args : Array Value} {below : List Frame} {meth : Method} {c : Code} {D : va_G} {cI cM : ClassId} {A : Nat → Prop} {a_this a_this_all a_this_past a_this_refused a_this_box a_this_row a_this_text a_this_numbers a_this_before : Nat} {v_states : Int32} {v_rowMany : Int32} {v_taken : Int32} {v_found : Int32} {v_textLong : Int32} {v_at : Int32} {v_stopped : Int32} {N : Nat} {o_empty : Int32} {o_cut : Int32} {o_box : Nat → Int32} (C0 : g_cx cX8_cutsSum none 4 RX8 wsX8_cutsSum p s m args meth c) (hA : ∀ q, s.heap.size ≤ q → A q) (hK : va_K D vwCl (g_tys cI cM) s) : ∀ (v_empty : Int32) (v_cut : Int32) (v_box : Nat → Int32) (x1 : Int32) (x2 : Int32) (x3 : Int32) (H : Heap) (locs : List Loc) (ls : Array Slot), f_X8_cutsSum N v_empty v_cut v_box x1 x2 x3 = some (o_empty, o_cut, o_box) → va_P D vwCl (ww_X8_cutsSum cI cM a_this a_this_all a_this_past a_this_refused a_this_box a_this_row a_this_text a_this_numbers a_this_before v_states v_empty v_cut v_rowMany v_taken v_found v_textLong v_at v_stopped v_box) H → va_D A (ww_X8_cutsSum cI cM a_this a_this_all a_this_past a_this_refused a_this_box a_this_row a_this_text a_this_numbers a_this_before v_states v_empty v_cut v_rowMany v_taken v_found v_textLong v_at v_stopped v_box) → va_S A s.heap H locs → lv_has ls 4 [(0, .ref a_this), (1, .int x1), (2, .int x2), (3, .int x3)] → W p l e rm_X8_cutsSum s m args below meth c H locs 0 0 (MQ below (g_QV D (g_tys cI cM) A (ww_X8_cutsSum cI cM a_this a_this_all a_this_past a_this_refused a_this_box a_this_row a_this_text a_this_numbers a_this_before v_states o_empty o_cut v_rowMany v_taken v_found v_textLong v_at v_stopped o_box)) args s 0 0 A) (F0 m 0 ls []) := by
  obtain ⟨hx, hb, hr, hml, hown, hts, hlocks⟩ := id C0
  intro v_empty v_cut v_box x1 x2 x3 H locs ls hf hP hD hS hl
  unfold f_X8_cutsSum at hf
  refine lv_aload_n hx hb dX8_cutsSum_0 rfl (lv_at hl 0 rfl) ?_
  refine lv_iload_n hx hb dX8_cutsSum_1 rfl (lv_at hl 3 rfl) ?_
  refine lv_aload_n hx hb dX8_cutsSum_2 rfl (lv_at hl 0 rfl) ?_
  refine lv_iload_n hx hb dX8_cutsSum_3 rfl (lv_at hl 1 rfl) ?_
  obtain ⟨r4, hg4, hf⟩ := o_b1_go hf
  refine g_callVi (wn := (ww_X8_cutsSum cI cM a_this a_this_all a_this_past a_this_refused a_this_box a_this_row a_this_text a_this_numbers a_this_before v_states v_empty v_cut v_rowMany v_taken v_found v_textLong v_at v_stopped v_box)) (rest := [.int x3, .ref a_this]) ⟨hx, hb, hml, hown, hts⟩ (c_X8_low l D cI cM a_this a_this_all a_this_past a_this_refused a_this_box a_this_row a_this_text a_this_numbers a_this_before H.size v_states v_empty v_cut v_rowMany v_taken v_found v_textLong v_at v_stopped v_box hg4) (cwV 1 hts gX8_cutsSum_X8_low rfl rfl rfl (by decide +kernel) ⟨Nat.le_of_ble_eq_true rfl, Nat.le_of_ble_eq_true rfl⟩) hK hP hD hS hA [0, 1] [] [0, 1] rfl rfl rfl rfl rfl rfl (by decide) rfl rfl rfl hl.1 rfl (Nat.le_of_ble_eq_true rfl) dX8_cutsSum_4 (fun H locs hP hD hS => ?_)
  refine lv_aload_n hx hb dX8_cutsSum_7 rfl (lv_at hl 0 rfl) ?_
  refine lv_iload_n hx hb dX8_cutsSum_8 rfl (lv_at hl 2 rfl) ?_
  obtain ⟨r9, hg9, hf⟩ := o_b1_go hf
  refine g_callVi (wn := (ww_X8_cutsSum cI cM a_this a_this_all a_this_past a_this_refused a_this_box a_this_row a_this_text a_this_numbers a_this_before v_states v_empty v_cut v_rowMany v_taken v_found v_textLong v_at v_stopped v_box)) (rest := [.int r4, .int x3, .ref a_this]) ⟨hx, hb, hml, hown, hts⟩ (c_X8_low l D cI cM a_this a_this_all a_this_past a_this_refused a_this_box a_this_row a_this_text a_this_numbers a_this_before H.size v_states v_empty v_cut v_rowMany v_taken v_found v_textLong v_at v_stopped v_box hg9) (cwV 1 hts gX8_cutsSum_X8_low rfl rfl rfl (by decide +kernel) ⟨Nat.le_of_ble_eq_true rfl, Nat.le_of_ble_eq_true rfl⟩) hK hP hD hS hA [0, 1] [] [0, 1] rfl rfl rfl rfl rfl rfl (by decide) rfl rfl rfl hl.1 rfl (Nat.le_of_ble_eq_true rfl) dX8_cutsSum_9 (fun H locs hP hD hS => ?_)
  obtain ⟨r12, hg12, hf⟩ := o_b1_go hf
  refine g_callSi (rest := [.int x3, .ref a_this]) ⟨hx, hb, hml, hown, hts⟩ (c_X8_sum l hg12) (va_cwS 2 hts gX8_cutsSum_X8_sum rfl rfl rfl (by decide +kernel) ⟨Nat.le_of_ble_eq_true rfl, Nat.le_of_ble_eq_true rfl⟩) rfl hl.1 rfl (Nat.le_of_ble_eq_true rfl) dX8_cutsSum_12 ?_
  refine lv_i2l hx hb dX8_cutsSum_15 rfl ?_
  refine lv_aload_n hx hb dX8_cutsSum_16 rfl (lv_at hl 0 rfl) ?_
  refine lv_iload_n hx hb dX8_cutsSum_17 rfl (lv_at hl 1 rfl) ?_
  obtain ⟨r18, hg18, hf⟩ := o_b1_go hf
  refine g_callVi (wn := (ww_X8_cutsSum cI cM a_this a_this_all a_this_past a_this_refused a_this_box a_this_row a_this_text a_this_numbers a_this_before v_states v_empty v_cut v_rowMany v_taken v_found v_textLong v_at v_stopped v_box)) (rest := [.long r12.toInt64, .int x3, .ref a_this]) ⟨hx, hb, hml, hown, hts⟩ (c_X8_high l D cI cM a_this a_this_all a_this_past a_this_refused a_this_box a_this_row a_this_text a_this_numbers a_this_before H.size v_states v_empty v_cut v_rowMany v_taken v_found v_textLong v_at v_stopped v_box hg18) (cwV 1 hts gX8_cutsSum_X8_high rfl rfl rfl (by decide +kernel) ⟨Nat.le_of_ble_eq_true rfl, Nat.le_of_ble_eq_true rfl⟩) hK hP hD hS hA [0, 1] [] [0, 1] rfl rfl rfl rfl rfl rfl (by decide) rfl rfl rfl hl.1 rfl (Nat.le_of_ble_eq_true rfl) dX8_cutsSum_18 (fun H locs hP hD hS => ?_)
  refine lv_aload_n hx hb dX8_cutsSum_21 rfl (lv_at hl 0 rfl) ?_
  refine lv_iload_n hx hb dX8_cutsSum_22 rfl (lv_at hl 2 rfl) ?_
  obtain ⟨r23, hg23, hf⟩ := o_b1_go hf
  refine g_callVi (wn := (ww_X8_cutsSum cI cM a_this a_this_all a_this_past a_this_refused a_this_box a_this_row a_this_text a_this_numbers a_this_before v_states v_empty v_cut v_rowMany v_taken v_found v_textLong v_at v_stopped v_box)) (rest := [.int r18, .long r12.toInt64, .int x3, .ref a_this]) ⟨hx, hb, hml, hown, hts⟩ (c_X8_high l D cI cM a_this a_this_all a_this_past a_this_refused a_this_box a_this_row a_this_text a_this_numbers a_this_before H.size v_states v_empty v_cut v_rowMany v_taken v_found v_textLong v_at v_stopped v_box hg23) (cwV 1 hts gX8_cutsSum_X8_high rfl rfl rfl (by decide +kernel) ⟨Nat.le_of_ble_eq_true rfl, Nat.le_of_ble_eq_true rfl⟩) hK hP hD hS hA [0, 1] [] [0, 1] rfl rfl rfl rfl rfl rfl (by decide) rfl rfl rfl hl.1 rfl (Nat.le_of_ble_eq_true rfl) dX8_cutsSum_23 (fun H locs hP hD hS => ?_)
  obtain ⟨r26, hg26, hf⟩ := o_b1_go hf
  refine g_callSi (rest := [.long r12.toInt64, .int x3, .ref a_this]) ⟨hx, hb, hml, hown, hts⟩ (c_X8_sum l hg26) (va_cwS 2 hts gX8_cutsSum_X8_sum rfl rfl rfl (by decide +kernel) ⟨Nat.le_of_ble_eq_true rfl, Nat.le_of_ble_eq_true rfl⟩) rfl hl.1 rfl (Nat.le_of_ble_eq_true rfl) dX8_cutsSum_26 ?_
  refine lv_i2l hx hb dX8_cutsSum_29 rfl ?_
  obtain ⟨v_empty_30, v_cut_30, v_box_30, hg30, hf⟩ := o_b3_go hf
  refine g_callVv (wn := (ww_X8_cutsSum cI cM a_this a_this_all a_this_past a_this_refused a_this_box a_this_row a_this_text a_this_numbers a_this_before v_states v_empty_30 v_cut_30 v_rowMany v_taken v_found v_textLong v_at v_stopped v_box_30)) (rest := []) ⟨hx, hb, hml, hown, hts⟩ (c_X8_keeps l D cI cM a_this a_this_all a_this_past a_this_refused a_this_box a_this_row a_this_text a_this_numbers a_this_before H.size v_states v_empty v_cut v_rowMany v_taken v_found v_textLong v_at v_stopped v_box hg30) (cwV 3 hts gX8_cutsSum_X8_keeps rfl rfl rfl (by decide +kernel) ⟨Nat.le_of_ble_eq_true rfl, Nat.le_of_ble_eq_true rfl⟩) hK hP hD hS hA [0, 1] [] [0, 1] rfl rfl rfl rfl rfl rfl (by decide) rfl rfl rfl hl.1 rfl (Nat.le_of_ble_eq_true rfl) dX8_cutsSum_30 (fun H locs hP hD hS => ?_)
  refine lv_aload_n hx hb dX8_cutsSum_33 rfl (lv_at hl 0 rfl) ?_
  refine lv_iload_n hx hb dX8_cutsSum_34 rfl (lv_at hl 1 rfl) ?_
  refine lv_iload_n hx hb dX8_cutsSum_35 rfl (lv_at hl 2 rfl) ?_
  refine lv_iload_n hx hb dX8_cutsSum_36 rfl (lv_at hl 3 rfl) ?_
  obtain ⟨v_empty_37, v_cut_37, v_box_37, hg37, hf⟩ := o_b3_go hf
  refine g_callVv (wn := (ww_X8_cutsSum cI cM a_this a_this_all a_this_past a_this_refused a_this_box a_this_row a_this_text a_this_numbers a_this_before v_states v_empty_37 v_cut_37 v_rowMany v_taken v_found v_textLong v_at v_stopped v_box_37)) (rest := []) ⟨hx, hb, hml, hown, hts⟩ (c_X8_keepsSummand l D cI cM a_this a_this_all a_this_past a_this_refused a_this_box a_this_row a_this_text a_this_numbers a_this_before H.size v_states v_empty_30 v_cut_30 v_rowMany v_taken v_found v_textLong v_at v_stopped v_box_30 hg37) (cwV 3 hts gX8_cutsSum_X8_keepsSummand rfl rfl rfl (by decide +kernel) ⟨Nat.le_of_ble_eq_true rfl, Nat.le_of_ble_eq_true rfl⟩) hK hP hD hS hA [0, 1] [] [0, 1] rfl rfl rfl rfl rfl rfl (by decide) rfl rfl rfl hl.1 rfl (Nat.le_of_ble_eq_true rfl) dX8_cutsSum_37 (fun H locs hP hD hS => ?_)
  refine lv_aload_n hx hb dX8_cutsSum_40 rfl (lv_at hl 0 rfl) ?_
  refine lv_iload_n hx hb dX8_cutsSum_41 rfl (lv_at hl 2 rfl) ?_
  refine lv_iload_n hx hb dX8_cutsSum_42 rfl (lv_at hl 1 rfl) ?_
  refine lv_iload_n hx hb dX8_cutsSum_43 rfl (lv_at hl 3 rfl) ?_
  obtain ⟨v_empty_44, v_cut_44, v_box_44, hg44, hf⟩ := o_b3_go hf
  refine g_callVv (wn := (ww_X8_cutsSum cI cM a_this a_this_all a_this_past a_this_refused a_this_box a_this_row a_this_text a_this_numbers a_this_before v_states v_empty_44 v_cut_44 v_rowMany v_taken v_found v_textLong v_at v_stopped v_box_44)) (rest := []) ⟨hx, hb, hml, hown, hts⟩ (c_X8_keepsSummand l D cI cM a_this a_this_all a_this_past a_this_refused a_this_box a_this_row a_this_text a_this_numbers a_this_before H.size v_states v_empty_37 v_cut_37 v_rowMany v_taken v_found v_textLong v_at v_stopped v_box_37 hg44) (cwV 3 hts gX8_cutsSum_X8_keepsSummand rfl rfl rfl (by decide +kernel) ⟨Nat.le_of_ble_eq_true rfl, Nat.le_of_ble_eq_true rfl⟩) hK hP hD hS hA [0, 1] [] [0, 1] rfl rfl rfl rfl rfl rfl (by decide) rfl rfl rfl hl.1 rfl (Nat.le_of_ble_eq_true rfl) dX8_cutsSum_44 (fun H locs hP hD hS => ?_)
  obtain ⟨q0, y0⟩ := o_rp hf
  obtain ⟨q1, y1⟩ := o_rp y0
  have q2 := Option.some.inj y1
  subst q0 q1 q2
  exact g_vret hx hb hr hlocks hP hD hK hS dX8_cutsSum_47
set_option maxHeartbeats 4000000 in
set_option maxRecDepth 100000 in
theorem c_X8_cutsSum (l : Launch) (D : va_G) (cI cM : ClassId) (a_this a_this_all a_this_past a_this_refused a_this_box a_this_row a_this_text a_this_numbers a_this_before : Nat) (sz : Nat) (v_states : Int32) (v_empty : Int32) (v_cut : Int32) (v_rowMany : Int32) (v_taken : Int32) (v_found : Int32) (v_textLong : Int32) (v_at : Int32) (v_stopped : Int32) (v_box : Nat → Int32) {N : Nat} {x1 : Int32} {x2 : Int32} {x3 : Int32} {o_empty : Int32} {o_cut : Int32} {o_box : Nat → Int32} (hf : f_X8_cutsSum N v_empty v_cut v_box x1 x2 x3 = some (o_empty, o_cut, o_box)) : Met l yX8_cutsSum wsX8_cutsSum rm_X8_cutsSum (g_Pc D (g_tys cI cM) (ww_X8_cutsSum cI cM a_this a_this_all a_this_past a_this_refused a_this_box a_this_row a_this_text a_this_numbers a_this_before v_states v_empty v_cut v_rowMany v_taken v_found v_textLong v_at v_stopped v_box) sz [.ref a_this, .int x1, .int x2, .int x3]) (g_QV D (g_tys cI cM) (va_A (ww_X8_cutsSum cI cM a_this a_this_all a_this_past a_this_refused a_this_box a_this_row a_this_text a_this_numbers a_this_before v_states v_empty v_cut v_rowMany v_taken v_found v_textLong v_at v_stopped v_box) sz) (ww_X8_cutsSum cI cM a_this a_this_all a_this_past a_this_refused a_this_box a_this_row a_this_text a_this_numbers a_this_before v_states o_empty o_cut v_rowMany v_taken v_found v_textLong v_at v_stopped o_box)) 0 0 (va_A (ww_X8_cutsSum cI cM a_this a_this_all a_this_past a_this_refused a_this_box a_this_row a_this_text a_this_numbers a_this_before v_states v_empty v_cut v_rowMany v_taken v_found v_textLong v_at v_stopped v_box) sz) := by
  refine g_met (cc := cX8_cutsSum) (maxL := 4) (ret := none) (Qc := fun D A => g_QV D (g_tys cI cM) A (ww_X8_cutsSum cI cM a_this a_this_all a_this_past a_this_refused a_this_box a_this_row a_this_text a_this_numbers a_this_before v_states o_empty o_cut v_rowMany v_taken v_found v_textLong v_at v_stopped o_box)) (by decide) rfl ?_
  intro p e s m below meth c A C0 hA hK hP hD
  have hl := lv_entry ([.ref a_this, .int x1, .int x2, .int x3]) (n := 4) (Nat.le_of_ble_eq_true rfl)
  rw [lg_entry_eq]
  generalize (lg_sl ([.ref a_this, .int x1, .int x2, .int x3]) ++ List.replicate (4 - (lg_sl ([.ref a_this, .int x1, .int x2, .int x3])).length) Slot.unset).toArray = ls at hl ⊢
  have hl : lv_has ls 4 [(0, .ref a_this), (1, .int x1), (2, .int x2), (3, .int x3)] := hl
  exact w_X8_cutsSum_B0 C0 hA hK v_empty v_cut v_box x1 x2 x3 s.heap [] ls hf hP hD va_S.rf (lv_sub hl [0, 1, 2, 3] rfl)
/-! FloatBoxesModel.keepsFactor(III)V -/
abbrev rm_X8_keepsFactor : Room := { frames := 7, cells := 0, slots := 0, locals := 165 }
abbrev ww_X8_keepsFactor (cI cM : ClassId) (a_this a_this_all a_this_past a_this_refused a_this_box a_this_row a_this_text a_this_numbers a_this_before : Nat) (v_states : Int32) (v_empty : Int32) (v_cut : Int32) (v_rowMany : Int32) (v_taken : Int32) (v_found : Int32) (v_textLong : Int32) (v_at : Int32) (v_stopped : Int32) (v_box : Nat → Int32) : va_W := [(a_this, .inr (6, [.ref a_this_all, .ref a_this_past, .int v_states, .ref a_this_refused, .ref a_this_box, .int v_empty, .int v_cut, .ref a_this_row, .int v_rowMany, .int v_taken, .int v_found, .ref a_this_text, .int v_textLong, .int v_at, .ref a_this_numbers, .int v_stopped, .ref a_this_before])), (a_this_box, .inl (cI, 12, .inl v_box))]
def f_X8_keepsFactor_B282 (N : Nat) (v_empty : Int32) (v_cut : Int32) (v_box : Nat → Int32) (x1 : Int32) (x4 : Int64) (x6 : Int64) : Option (Int32 × Int32 × (Nat → Int32)) :=
  o_b3 (f_X8_keeps v_empty v_cut v_box x1 x4 x6) (fun (v_empty_288 : Int32) (v_cut_288 : Int32) (v_box_288 : Nat → Int32) =>
  some (v_empty_288, v_cut_288, v_box_288))
set_option maxHeartbeats 4000000 in
set_option maxRecDepth 100000 in
theorem w_X8_keepsFactor_B282 {p : Program} {l : Launch} {e : Env} {s : State} {m : MethodId} {args : Array Value} {below : List Frame} {meth : Method} {c : Code} {D : va_G} {cI cM : ClassId} {A : Nat → Prop} {a_this a_this_all a_this_past a_this_refused a_this_box a_this_row a_this_text a_this_numbers a_this_before : Nat} {v_states : Int32} {v_rowMany : Int32} {v_taken : Int32} {v_found : Int32} {v_textLong : Int32} {v_at : Int32} {v_stopped : Int32} {N : Nat} {o_empty : Int32} {o_cut : Int32} {o_box : Nat → Int32} (C0 : g_cx cX8_keepsFactor none 13 RX8 wsX8_keepsFactor p s m args meth c) (hA : ∀ q, s.heap.size ≤ q → A q) (hK : va_K D vwCl (g_tys cI cM) s) : ∀ (v_empty : Int32) (v_cut : Int32) (v_box : Nat → Int32) (x1 : Int32) (x4 : Int64) (x6 : Int64) (H : Heap) (locs : List Loc) (ls : Array Slot), f_X8_keepsFactor_B282 N v_empty v_cut v_box x1 x4 x6 = some (o_empty, o_cut, o_box) → va_P D vwCl (ww_X8_keepsFactor cI cM a_this a_this_all a_this_past a_this_refused a_this_box a_this_row a_this_text a_this_numbers a_this_before v_states v_empty v_cut v_rowMany v_taken v_found v_textLong v_at v_stopped v_box) H → va_D A (ww_X8_keepsFactor cI cM a_this a_this_all a_this_past a_this_refused a_this_box a_this_row a_this_text a_this_numbers a_this_before v_states v_empty v_cut v_rowMany v_taken v_found v_textLong v_at v_stopped v_box) → va_S A s.heap H locs → lv_has ls 13 [(0, .ref a_this), (1, .int x1), (4, .long x4), (6, .long x6)] → W p l e rm_X8_keepsFactor s m args below meth c H locs 0 0 (MQ below (g_QV D (g_tys cI cM) A (ww_X8_keepsFactor cI cM a_this a_this_all a_this_past a_this_refused a_this_box a_this_row a_this_text a_this_numbers a_this_before v_states o_empty o_cut v_rowMany v_taken v_found v_textLong v_at v_stopped o_box)) args s 0 0 A) (F0 m 282 ls []) := by
  obtain ⟨hx, hb, hr, hml, hown, hts, hlocks⟩ := id C0
  intro v_empty v_cut v_box x1 x4 x6 H locs ls hf hP hD hS hl
  unfold f_X8_keepsFactor_B282 at hf
  refine lv_aload_n hx hb dX8_keepsFactor_282 rfl (lv_at hl 0 rfl) ?_
  refine lv_iload_n hx hb dX8_keepsFactor_283 rfl (lv_at hl 1 rfl) ?_
  refine lv_lload hx hb dX8_keepsFactor_284 (lv_at hl 2 rfl) ?_
  refine lv_lload hx hb dX8_keepsFactor_286 (lv_at hl 3 rfl) ?_
  obtain ⟨v_empty_288, v_cut_288, v_box_288, hg288, hf⟩ := o_b3_go hf
  refine g_callVv (wn := (ww_X8_keepsFactor cI cM a_this a_this_all a_this_past a_this_refused a_this_box a_this_row a_this_text a_this_numbers a_this_before v_states v_empty_288 v_cut_288 v_rowMany v_taken v_found v_textLong v_at v_stopped v_box_288)) (rest := []) ⟨hx, hb, hml, hown, hts⟩ (c_X8_keeps l D cI cM a_this a_this_all a_this_past a_this_refused a_this_box a_this_row a_this_text a_this_numbers a_this_before H.size v_states v_empty v_cut v_rowMany v_taken v_found v_textLong v_at v_stopped v_box hg288) (cwV 3 hts gX8_keepsFactor_X8_keeps rfl rfl rfl (by decide +kernel) ⟨Nat.le_of_ble_eq_true rfl, Nat.le_of_ble_eq_true rfl⟩) hK hP hD hS hA [0, 1] [] [0, 1] rfl rfl rfl rfl rfl rfl (by decide) rfl rfl rfl hl.1 rfl (Nat.le_of_ble_eq_true rfl) dX8_keepsFactor_288 (fun H locs hP hD hS => ?_)
  obtain ⟨q0, y0⟩ := o_rp hf
  obtain ⟨q1, y1⟩ := o_rp y0
  have q2 := Option.some.inj y1
  subst q0 q1 q2
  exact g_vret hx hb hr hlocks hP hD hK hS dX8_keepsFactor_291
def f_X8_keepsFactor_B280 (N : Nat) (v_empty : Int32) (v_cut : Int32) (v_box : Nat → Int32) (x1 : Int32) (x4 : Int64) (z0 : Int64) : Option (Int32 × Int32 × (Nat → Int32)) :=
  f_X8_keepsFactor_B282 N v_empty v_cut v_box x1 x4 z0
set_option maxHeartbeats 4000000 in
set_option maxRecDepth 100000 in
theorem w_X8_keepsFactor_B280 {p : Program} {l : Launch} {e : Env} {s : State} {m : MethodId} {args : Array Value} {below : List Frame} {meth : Method} {c : Code} {D : va_G} {cI cM : ClassId} {A : Nat → Prop} {a_this a_this_all a_this_past a_this_refused a_this_box a_this_row a_this_text a_this_numbers a_this_before : Nat} {v_states : Int32} {v_rowMany : Int32} {v_taken : Int32} {v_found : Int32} {v_textLong : Int32} {v_at : Int32} {v_stopped : Int32} {N : Nat} {o_empty : Int32} {o_cut : Int32} {o_box : Nat → Int32} (C0 : g_cx cX8_keepsFactor none 13 RX8 wsX8_keepsFactor p s m args meth c) (hA : ∀ q, s.heap.size ≤ q → A q) (hK : va_K D vwCl (g_tys cI cM) s) : ∀ (v_empty : Int32) (v_cut : Int32) (v_box : Nat → Int32) (x1 : Int32) (x4 : Int64) (z0 : Int64) (H : Heap) (locs : List Loc) (ls : Array Slot), f_X8_keepsFactor_B280 N v_empty v_cut v_box x1 x4 z0 = some (o_empty, o_cut, o_box) → va_P D vwCl (ww_X8_keepsFactor cI cM a_this a_this_all a_this_past a_this_refused a_this_box a_this_row a_this_text a_this_numbers a_this_before v_states v_empty v_cut v_rowMany v_taken v_found v_textLong v_at v_stopped v_box) H → va_D A (ww_X8_keepsFactor cI cM a_this a_this_all a_this_past a_this_refused a_this_box a_this_row a_this_text a_this_numbers a_this_before v_states v_empty v_cut v_rowMany v_taken v_found v_textLong v_at v_stopped v_box) → va_S A s.heap H locs → lv_has ls 13 [(0, .ref a_this), (1, .int x1), (4, .long x4)] → W p l e rm_X8_keepsFactor s m args below meth c H locs 0 0 (MQ below (g_QV D (g_tys cI cM) A (ww_X8_keepsFactor cI cM a_this a_this_all a_this_past a_this_refused a_this_box a_this_row a_this_text a_this_numbers a_this_before v_states o_empty o_cut v_rowMany v_taken v_found v_textLong v_at v_stopped o_box)) args s 0 0 A) (F0 m 280 ls [.long z0]) := by
  obtain ⟨hx, hb, hr, hml, hown, hts, hlocks⟩ := id C0
  intro v_empty v_cut v_box x1 x4 z0 H locs ls hf hP hD hS hl
  unfold f_X8_keepsFactor_B280 at hf
  refine lv_lstore (lv' := [(6, .long z0), (0, .ref a_this), (1, .int x1), (4, .long x4)]) hx hb dX8_keepsFactor_280 hl (by decide) rfl (fun ls hl => ?_)
  exact w_X8_keepsFactor_B282 C0 hA hK v_empty v_cut v_box x1 x4 z0 H locs ls hf hP hD hS (lv_sub hl [1, 2, 3, 0] rfl)
def f_X8_keepsFactor_B278 (N : Nat) (v_empty : Int32) (v_cut : Int32) (v_box : Nat → Int32) (x1 : Int32) (x4 : Int64) (x6 : Int64) : Option (Int32 × Int32 × (Nat → Int32)) :=
  f_X8_keepsFactor_B280 N v_empty v_cut v_box x1 x4 x6
set_option maxHeartbeats 4000000 in
set_option maxRecDepth 100000 in
theorem w_X8_keepsFactor_B278 {p : Program} {l : Launch} {e : Env} {s : State} {m : MethodId} {args : Array Value} {below : List Frame} {meth : Method} {c : Code} {D : va_G} {cI cM : ClassId} {A : Nat → Prop} {a_this a_this_all a_this_past a_this_refused a_this_box a_this_row a_this_text a_this_numbers a_this_before : Nat} {v_states : Int32} {v_rowMany : Int32} {v_taken : Int32} {v_found : Int32} {v_textLong : Int32} {v_at : Int32} {v_stopped : Int32} {N : Nat} {o_empty : Int32} {o_cut : Int32} {o_box : Nat → Int32} (C0 : g_cx cX8_keepsFactor none 13 RX8 wsX8_keepsFactor p s m args meth c) (hA : ∀ q, s.heap.size ≤ q → A q) (hK : va_K D vwCl (g_tys cI cM) s) : ∀ (v_empty : Int32) (v_cut : Int32) (v_box : Nat → Int32) (x1 : Int32) (x4 : Int64) (x6 : Int64) (H : Heap) (locs : List Loc) (ls : Array Slot), f_X8_keepsFactor_B278 N v_empty v_cut v_box x1 x4 x6 = some (o_empty, o_cut, o_box) → va_P D vwCl (ww_X8_keepsFactor cI cM a_this a_this_all a_this_past a_this_refused a_this_box a_this_row a_this_text a_this_numbers a_this_before v_states v_empty v_cut v_rowMany v_taken v_found v_textLong v_at v_stopped v_box) H → va_D A (ww_X8_keepsFactor cI cM a_this a_this_all a_this_past a_this_refused a_this_box a_this_row a_this_text a_this_numbers a_this_before v_states v_empty v_cut v_rowMany v_taken v_found v_textLong v_at v_stopped v_box) → va_S A s.heap H locs → lv_has ls 13 [(0, .ref a_this), (1, .int x1), (4, .long x4), (6, .long x6)] → W p l e rm_X8_keepsFactor s m args below meth c H locs 0 0 (MQ below (g_QV D (g_tys cI cM) A (ww_X8_keepsFactor cI cM a_this a_this_all a_this_past a_this_refused a_this_box a_this_row a_this_text a_this_numbers a_this_before v_states o_empty o_cut v_rowMany v_taken v_found v_textLong v_at v_stopped o_box)) args s 0 0 A) (F0 m 278 ls []) := by
  obtain ⟨hx, hb, hr, hml, hown, hts, hlocks⟩ := id C0
  intro v_empty v_cut v_box x1 x4 x6 H locs ls hf hP hD hS hl
  unfold f_X8_keepsFactor_B278 at hf
  refine lv_lload hx hb dX8_keepsFactor_278 (lv_at hl 3 rfl) ?_
  exact w_X8_keepsFactor_B280 C0 hA hK v_empty v_cut v_box x1 x4 x6 H locs ls hf hP hD hS (lv_sub hl [0, 1, 2] rfl)
def f_X8_keepsFactor_B255 (N : Nat) (v_empty : Int32) (v_cut : Int32) (v_box : Nat → Int32) (x1 : Int32) (x6 : Int64) (x9 : Int64) (x11 : Int64) (z0 : Int64) : Option (Int32 × Int32 × (Nat → Int32)) :=
  if 0 < (lg_cmp x9 x11) then
    f_X8_keepsFactor_B278 N v_empty v_cut v_box x1 z0 x6
  else
    if (lg_cmp x11 x6) ≤ 0 then
      f_X8_keepsFactor_B278 N v_empty v_cut v_box x1 z0 x6
    else
      f_X8_keepsFactor_B280 N v_empty v_cut v_box x1 z0 x11
set_option maxHeartbeats 4000000 in
set_option maxRecDepth 100000 in
theorem w_X8_keepsFactor_B255 {p : Program} {l : Launch} {e : Env} {s : State} {m : MethodId} {args : Array Value} {below : List Frame} {meth : Method} {c : Code} {D : va_G} {cI cM : ClassId} {A : Nat → Prop} {a_this a_this_all a_this_past a_this_refused a_this_box a_this_row a_this_text a_this_numbers a_this_before : Nat} {v_states : Int32} {v_rowMany : Int32} {v_taken : Int32} {v_found : Int32} {v_textLong : Int32} {v_at : Int32} {v_stopped : Int32} {N : Nat} {o_empty : Int32} {o_cut : Int32} {o_box : Nat → Int32} (C0 : g_cx cX8_keepsFactor none 13 RX8 wsX8_keepsFactor p s m args meth c) (hA : ∀ q, s.heap.size ≤ q → A q) (hK : va_K D vwCl (g_tys cI cM) s) : ∀ (v_empty : Int32) (v_cut : Int32) (v_box : Nat → Int32) (x1 : Int32) (x6 : Int64) (x9 : Int64) (x11 : Int64) (z0 : Int64) (H : Heap) (locs : List Loc) (ls : Array Slot), f_X8_keepsFactor_B255 N v_empty v_cut v_box x1 x6 x9 x11 z0 = some (o_empty, o_cut, o_box) → va_P D vwCl (ww_X8_keepsFactor cI cM a_this a_this_all a_this_past a_this_refused a_this_box a_this_row a_this_text a_this_numbers a_this_before v_states v_empty v_cut v_rowMany v_taken v_found v_textLong v_at v_stopped v_box) H → va_D A (ww_X8_keepsFactor cI cM a_this a_this_all a_this_past a_this_refused a_this_box a_this_row a_this_text a_this_numbers a_this_before v_states v_empty v_cut v_rowMany v_taken v_found v_textLong v_at v_stopped v_box) → va_S A s.heap H locs → lv_has ls 13 [(0, .ref a_this), (1, .int x1), (6, .long x6), (9, .long x9), (11, .long x11)] → W p l e rm_X8_keepsFactor s m args below meth c H locs 0 0 (MQ below (g_QV D (g_tys cI cM) A (ww_X8_keepsFactor cI cM a_this a_this_all a_this_past a_this_refused a_this_box a_this_row a_this_text a_this_numbers a_this_before v_states o_empty o_cut v_rowMany v_taken v_found v_textLong v_at v_stopped o_box)) args s 0 0 A) (F0 m 255 ls [.long z0]) := by
  obtain ⟨hx, hb, hr, hml, hown, hts, hlocks⟩ := id C0
  intro v_empty v_cut v_box x1 x6 x9 x11 z0 H locs ls hf hP hD hS hl
  unfold f_X8_keepsFactor_B255 at hf
  refine lv_lstore (lv' := [(4, .long z0), (0, .ref a_this), (1, .int x1), (6, .long x6), (9, .long x9), (11, .long x11)]) hx hb dX8_keepsFactor_255 hl (by decide) rfl (fun ls hl => ?_)
  refine lv_lload hx hb dX8_keepsFactor_257 (lv_at hl 4 rfl) ?_
  refine lv_lload hx hb dX8_keepsFactor_259 (lv_at hl 5 rfl) ?_
  refine W.lcmp hx hb dX8_keepsFactor_261 ?_
  refine lv_if_gt (tgt := 278) hx hb dX8_keepsFactor_262 (by decide) (fun c262 => ?_) (fun c262 => ?_)
  · replace hf := o_t c262 hf
    exact w_X8_keepsFactor_B278 C0 hA hK v_empty v_cut v_box x1 z0 x6 H locs ls hf hP hD hS (lv_sub hl [1, 2, 0, 3] rfl)
  · replace hf := o_f c262 hf
    refine lv_lload hx hb dX8_keepsFactor_265 (lv_at hl 5 rfl) ?_
    refine lv_lload hx hb dX8_keepsFactor_267 (lv_at hl 3 rfl) ?_
    refine W.lcmp hx hb dX8_keepsFactor_269 ?_
    refine lv_if_le (tgt := 278) hx hb dX8_keepsFactor_270 (by decide) (fun c270 => ?_) (fun c270 => ?_)
    · replace hf := o_t c270 hf
      exact w_X8_keepsFactor_B278 C0 hA hK v_empty v_cut v_box x1 z0 x6 H locs ls hf hP hD hS (lv_sub hl [1, 2, 0, 3] rfl)
    · replace hf := o_f c270 hf
      refine lv_lload hx hb dX8_keepsFactor_273 (lv_at hl 5 rfl) ?_
      refine lv_goto (tgt := 280) hx hb dX8_keepsFactor_275 (by decide) ?_
      exact w_X8_keepsFactor_B280 C0 hA hK v_empty v_cut v_box x1 z0 x11 H locs ls hf hP hD hS (lv_sub hl [1, 2, 0] rfl)
def f_X8_keepsFactor_B253 (N : Nat) (v_empty : Int32) (v_cut : Int32) (v_box : Nat → Int32) (x1 : Int32) (x4 : Int64) (x6 : Int64) (x9 : Int64) (x11 : Int64) : Option (Int32 × Int32 × (Nat → Int32)) :=
  f_X8_keepsFactor_B255 N v_empty v_cut v_box x1 x6 x9 x11 x4
set_option maxHeartbeats 4000000 in
set_option maxRecDepth 100000 in
theorem w_X8_keepsFactor_B253 {p : Program} {l : Launch} {e : Env} {s : State} {m : MethodId} {args : Array Value} {below : List Frame} {meth : Method} {c : Code} {D : va_G} {cI cM : ClassId} {A : Nat → Prop} {a_this a_this_all a_this_past a_this_refused a_this_box a_this_row a_this_text a_this_numbers a_this_before : Nat} {v_states : Int32} {v_rowMany : Int32} {v_taken : Int32} {v_found : Int32} {v_textLong : Int32} {v_at : Int32} {v_stopped : Int32} {N : Nat} {o_empty : Int32} {o_cut : Int32} {o_box : Nat → Int32} (C0 : g_cx cX8_keepsFactor none 13 RX8 wsX8_keepsFactor p s m args meth c) (hA : ∀ q, s.heap.size ≤ q → A q) (hK : va_K D vwCl (g_tys cI cM) s) : ∀ (v_empty : Int32) (v_cut : Int32) (v_box : Nat → Int32) (x1 : Int32) (x4 : Int64) (x6 : Int64) (x9 : Int64) (x11 : Int64) (H : Heap) (locs : List Loc) (ls : Array Slot), f_X8_keepsFactor_B253 N v_empty v_cut v_box x1 x4 x6 x9 x11 = some (o_empty, o_cut, o_box) → va_P D vwCl (ww_X8_keepsFactor cI cM a_this a_this_all a_this_past a_this_refused a_this_box a_this_row a_this_text a_this_numbers a_this_before v_states v_empty v_cut v_rowMany v_taken v_found v_textLong v_at v_stopped v_box) H → va_D A (ww_X8_keepsFactor cI cM a_this a_this_all a_this_past a_this_refused a_this_box a_this_row a_this_text a_this_numbers a_this_before v_states v_empty v_cut v_rowMany v_taken v_found v_textLong v_at v_stopped v_box) → va_S A s.heap H locs → lv_has ls 13 [(0, .ref a_this), (1, .int x1), (4, .long x4), (6, .long x6), (9, .long x9), (11, .long x11)] → W p l e rm_X8_keepsFactor s m args below meth c H locs 0 0 (MQ below (g_QV D (g_tys cI cM) A (ww_X8_keepsFactor cI cM a_this a_this_all a_this_past a_this_refused a_this_box a_this_row a_this_text a_this_numbers a_this_before v_states o_empty o_cut v_rowMany v_taken v_found v_textLong v_at v_stopped o_box)) args s 0 0 A) (F0 m 253 ls []) := by
  obtain ⟨hx, hb, hr, hml, hown, hts, hlocks⟩ := id C0
  intro v_empty v_cut v_box x1 x4 x6 x9 x11 H locs ls hf hP hD hS hl
  unfold f_X8_keepsFactor_B253 at hf
  refine lv_lload hx hb dX8_keepsFactor_253 (lv_at hl 2 rfl) ?_
  exact w_X8_keepsFactor_B255 C0 hA hK v_empty v_cut v_box x1 x6 x9 x11 x4 H locs ls hf hP hD hS (lv_sub hl [0, 1, 3, 4, 5] rfl)
def f_X8_keepsFactor_B174 (N : Nat) (v_empty : Int32) (v_cut : Int32) (v_box : Nat → Int32) (x1 : Int32) (x2 : Int32) (x3 : Int32) (x4 : Int64) (x6 : Int64) (z0 : Int32) : Option (Int32 × Int32 × (Nat → Int32)) :=
  o_b1 (f_X8_low v_box x1) (fun (r179 : Int32) =>
  o_b1 (f_X8_high v_box x1) (fun (r184 : Int32) =>
  o_b1 (f_X8_high v_box x2) (fun (r191 : Int32) =>
  o_b1 (f_X8_low v_box x3) (fun (r196 : Int32) =>
  o_b1 (f_X8_firstRising N 1 r179 r184 z0 r191 r196) (fun (r199 : Int64) =>
  o_b1 (f_X8_low v_box x1) (fun (r207 : Int32) =>
  o_b1 (f_X8_high v_box x1) (fun (r212 : Int32) =>
  o_b1 (f_X8_high v_box x2) (fun (r219 : Int32) =>
  o_b1 (f_X8_high v_box x3) (fun (r224 : Int32) =>
  o_b1 (f_X8_lastRising N 1 r207 r212 z0 r219 r224) (fun (r227 : Int64) =>
  if 0 < (lg_cmp r199 r227) then
    f_X8_keepsFactor_B253 N v_empty v_cut v_box x1 x4 x6 r199 r227
  else
    if 0 ≤ (lg_cmp r199 x4) then
      f_X8_keepsFactor_B253 N v_empty v_cut v_box x1 x4 x6 r199 r227
    else
      f_X8_keepsFactor_B255 N v_empty v_cut v_box x1 x6 r199 r227 r199))))))))))
set_option maxHeartbeats 4000000 in
set_option maxRecDepth 100000 in
theorem w_X8_keepsFactor_B174 {p : Program} {l : Launch} {e : Env} {s : State} {m : MethodId} {args : Array Value} {below : List Frame} {meth : Method} {c : Code} {D : va_G} {cI cM : ClassId} {A : Nat → Prop} {a_this a_this_all a_this_past a_this_refused a_this_box a_this_row a_this_text a_this_numbers a_this_before : Nat} {v_states : Int32} {v_rowMany : Int32} {v_taken : Int32} {v_found : Int32} {v_textLong : Int32} {v_at : Int32} {v_stopped : Int32} {N : Nat} {o_empty : Int32} {o_cut : Int32} {o_box : Nat → Int32} (C0 : g_cx cX8_keepsFactor none 13 RX8 wsX8_keepsFactor p s m args meth c) (hA : ∀ q, s.heap.size ≤ q → A q) (hK : va_K D vwCl (g_tys cI cM) s) : ∀ (v_empty : Int32) (v_cut : Int32) (v_box : Nat → Int32) (x1 : Int32) (x2 : Int32) (x3 : Int32) (x4 : Int64) (x6 : Int64) (z0 : Int32) (H : Heap) (locs : List Loc) (ls : Array Slot), f_X8_keepsFactor_B174 N v_empty v_cut v_box x1 x2 x3 x4 x6 z0 = some (o_empty, o_cut, o_box) → va_P D vwCl (ww_X8_keepsFactor cI cM a_this a_this_all a_this_past a_this_refused a_this_box a_this_row a_this_text a_this_numbers a_this_before v_states v_empty v_cut v_rowMany v_taken v_found v_textLong v_at v_stopped v_box) H → va_D A (ww_X8_keepsFactor cI cM a_this a_this_all a_this_past a_this_refused a_this_box a_this_row a_this_text a_this_numbers a_this_before v_states v_empty v_cut v_rowMany v_taken v_found v_textLong v_at v_stopped v_box) → va_S A s.heap H locs → lv_has ls 13 [(0, .ref a_this), (1, .int x1), (2, .int x2), (3, .int x3), (4, .long x4), (6, .long x6)] → W p l e rm_X8_keepsFactor s m args below meth c H locs 0 0 (MQ below (g_QV D (g_tys cI cM) A (ww_X8_keepsFactor cI cM a_this a_this_all a_this_past a_this_refused a_this_box a_this_row a_this_text a_this_numbers a_this_before v_states o_empty o_cut v_rowMany v_taken v_found v_textLong v_at v_stopped o_box)) args s 0 0 A) (F0 m 174 ls [.int z0]) := by
  obtain ⟨hx, hb, hr, hml, hown, hts, hlocks⟩ := id C0
  intro v_empty v_cut v_box x1 x2 x3 x4 x6 z0 H locs ls hf hP hD hS hl
  unfold f_X8_keepsFactor_B174 at hf
  refine lv_istore (lv' := [(8, .int z0), (0, .ref a_this), (1, .int x1), (2, .int x2), (3, .int x3), (4, .long x4), (6, .long x6)]) hx hb dX8_keepsFactor_174 hl (by decide) rfl (fun ls hl => ?_)
  refine lv_iconst (v := 1) hx hb dX8_keepsFactor_176 (by decide) ?_
  refine lv_aload_n hx hb dX8_keepsFactor_177 rfl (lv_at hl 1 rfl) ?_
  refine lv_iload_n hx hb dX8_keepsFactor_178 rfl (lv_at hl 2 rfl) ?_
  obtain ⟨r179, hg179, hf⟩ := o_b1_go hf
  refine g_callVi (wn := (ww_X8_keepsFactor cI cM a_this a_this_all a_this_past a_this_refused a_this_box a_this_row a_this_text a_this_numbers a_this_before v_states v_empty v_cut v_rowMany v_taken v_found v_textLong v_at v_stopped v_box)) (rest := [.int 1]) ⟨hx, hb, hml, hown, hts⟩ (c_X8_low l D cI cM a_this a_this_all a_this_past a_this_refused a_this_box a_this_row a_this_text a_this_numbers a_this_before H.size v_states v_empty v_cut v_rowMany v_taken v_found v_textLong v_at v_stopped v_box hg179) (cwV 1 hts gX8_keepsFactor_X8_low rfl rfl rfl (by decide +kernel) ⟨Nat.le_of_ble_eq_true rfl, Nat.le_of_ble_eq_true rfl⟩) hK hP hD hS hA [0, 1] [] [0, 1] rfl rfl rfl rfl rfl rfl (by decide) rfl rfl rfl hl.1 rfl (Nat.le_of_ble_eq_true rfl) dX8_keepsFactor_179 (fun H locs hP hD hS => ?_)
  refine lv_aload_n hx hb dX8_keepsFactor_182 rfl (lv_at hl 1 rfl) ?_
  refine lv_iload_n hx hb dX8_keepsFactor_183 rfl (lv_at hl 2 rfl) ?_
  obtain ⟨r184, hg184, hf⟩ := o_b1_go hf
  refine g_callVi (wn := (ww_X8_keepsFactor cI cM a_this a_this_all a_this_past a_this_refused a_this_box a_this_row a_this_text a_this_numbers a_this_before v_states v_empty v_cut v_rowMany v_taken v_found v_textLong v_at v_stopped v_box)) (rest := [.int r179, .int 1]) ⟨hx, hb, hml, hown, hts⟩ (c_X8_high l D cI cM a_this a_this_all a_this_past a_this_refused a_this_box a_this_row a_this_text a_this_numbers a_this_before H.size v_states v_empty v_cut v_rowMany v_taken v_found v_textLong v_at v_stopped v_box hg184) (cwV 1 hts gX8_keepsFactor_X8_high rfl rfl rfl (by decide +kernel) ⟨Nat.le_of_ble_eq_true rfl, Nat.le_of_ble_eq_true rfl⟩) hK hP hD hS hA [0, 1] [] [0, 1] rfl rfl rfl rfl rfl rfl (by decide) rfl rfl rfl hl.1 rfl (Nat.le_of_ble_eq_true rfl) dX8_keepsFactor_184 (fun H locs hP hD hS => ?_)
  refine lv_iload hx hb dX8_keepsFactor_187 (lv_at hl 0 rfl) ?_
  refine lv_aload_n hx hb dX8_keepsFactor_189 rfl (lv_at hl 1 rfl) ?_
  refine lv_iload_n hx hb dX8_keepsFactor_190 rfl (lv_at hl 3 rfl) ?_
  obtain ⟨r191, hg191, hf⟩ := o_b1_go hf
  refine g_callVi (wn := (ww_X8_keepsFactor cI cM a_this a_this_all a_this_past a_this_refused a_this_box a_this_row a_this_text a_this_numbers a_this_before v_states v_empty v_cut v_rowMany v_taken v_found v_textLong v_at v_stopped v_box)) (rest := [.int z0, .int r184, .int r179, .int 1]) ⟨hx, hb, hml, hown, hts⟩ (c_X8_high l D cI cM a_this a_this_all a_this_past a_this_refused a_this_box a_this_row a_this_text a_this_numbers a_this_before H.size v_states v_empty v_cut v_rowMany v_taken v_found v_textLong v_at v_stopped v_box hg191) (cwV 1 hts gX8_keepsFactor_X8_high rfl rfl rfl (by decide +kernel) ⟨Nat.le_of_ble_eq_true rfl, Nat.le_of_ble_eq_true rfl⟩) hK hP hD hS hA [0, 1] [] [0, 1] rfl rfl rfl rfl rfl rfl (by decide) rfl rfl rfl hl.1 rfl (Nat.le_of_ble_eq_true rfl) dX8_keepsFactor_191 (fun H locs hP hD hS => ?_)
  refine lv_aload_n hx hb dX8_keepsFactor_194 rfl (lv_at hl 1 rfl) ?_
  refine lv_iload_n hx hb dX8_keepsFactor_195 rfl (lv_at hl 4 rfl) ?_
  obtain ⟨r196, hg196, hf⟩ := o_b1_go hf
  refine g_callVi (wn := (ww_X8_keepsFactor cI cM a_this a_this_all a_this_past a_this_refused a_this_box a_this_row a_this_text a_this_numbers a_this_before v_states v_empty v_cut v_rowMany v_taken v_found v_textLong v_at v_stopped v_box)) (rest := [.int r191, .int z0, .int r184, .int r179, .int 1]) ⟨hx, hb, hml, hown, hts⟩ (c_X8_low l D cI cM a_this a_this_all a_this_past a_this_refused a_this_box a_this_row a_this_text a_this_numbers a_this_before H.size v_states v_empty v_cut v_rowMany v_taken v_found v_textLong v_at v_stopped v_box hg196) (cwV 1 hts gX8_keepsFactor_X8_low rfl rfl rfl (by decide +kernel) ⟨Nat.le_of_ble_eq_true rfl, Nat.le_of_ble_eq_true rfl⟩) hK hP hD hS hA [0, 1] [] [0, 1] rfl rfl rfl rfl rfl rfl (by decide) rfl rfl rfl hl.1 rfl (Nat.le_of_ble_eq_true rfl) dX8_keepsFactor_196 (fun H locs hP hD hS => ?_)
  obtain ⟨r199, hg199, hf⟩ := o_b1_go hf
  refine g_callSl (rest := []) ⟨hx, hb, hml, hown, hts⟩ (c_X8_firstRising l hg199) (va_cwS 6 hts gX8_keepsFactor_X8_firstRising rfl rfl rfl (by decide +kernel) ⟨Nat.le_of_ble_eq_true rfl, Nat.le_of_ble_eq_true rfl⟩) rfl hl.1 rfl (Nat.le_of_ble_eq_true rfl) dX8_keepsFactor_199 ?_
  refine lv_lstore (lv' := [(9, .long r199), (8, .int z0), (0, .ref a_this), (1, .int x1), (2, .int x2), (3, .int x3), (4, .long x4), (6, .long x6)]) hx hb dX8_keepsFactor_202 hl (by decide) rfl (fun ls hl => ?_)
  refine lv_iconst (v := 1) hx hb dX8_keepsFactor_204 (by decide) ?_
  refine lv_aload_n hx hb dX8_keepsFactor_205 rfl (lv_at hl 2 rfl) ?_
  refine lv_iload_n hx hb dX8_keepsFactor_206 rfl (lv_at hl 3 rfl) ?_
  obtain ⟨r207, hg207, hf⟩ := o_b1_go hf
  refine g_callVi (wn := (ww_X8_keepsFactor cI cM a_this a_this_all a_this_past a_this_refused a_this_box a_this_row a_this_text a_this_numbers a_this_before v_states v_empty v_cut v_rowMany v_taken v_found v_textLong v_at v_stopped v_box)) (rest := [.int 1]) ⟨hx, hb, hml, hown, hts⟩ (c_X8_low l D cI cM a_this a_this_all a_this_past a_this_refused a_this_box a_this_row a_this_text a_this_numbers a_this_before H.size v_states v_empty v_cut v_rowMany v_taken v_found v_textLong v_at v_stopped v_box hg207) (cwV 1 hts gX8_keepsFactor_X8_low rfl rfl rfl (by decide +kernel) ⟨Nat.le_of_ble_eq_true rfl, Nat.le_of_ble_eq_true rfl⟩) hK hP hD hS hA [0, 1] [] [0, 1] rfl rfl rfl rfl rfl rfl (by decide) rfl rfl rfl hl.1 rfl (Nat.le_of_ble_eq_true rfl) dX8_keepsFactor_207 (fun H locs hP hD hS => ?_)
  refine lv_aload_n hx hb dX8_keepsFactor_210 rfl (lv_at hl 2 rfl) ?_
  refine lv_iload_n hx hb dX8_keepsFactor_211 rfl (lv_at hl 3 rfl) ?_
  obtain ⟨r212, hg212, hf⟩ := o_b1_go hf
  refine g_callVi (wn := (ww_X8_keepsFactor cI cM a_this a_this_all a_this_past a_this_refused a_this_box a_this_row a_this_text a_this_numbers a_this_before v_states v_empty v_cut v_rowMany v_taken v_found v_textLong v_at v_stopped v_box)) (rest := [.int r207, .int 1]) ⟨hx, hb, hml, hown, hts⟩ (c_X8_high l D cI cM a_this a_this_all a_this_past a_this_refused a_this_box a_this_row a_this_text a_this_numbers a_this_before H.size v_states v_empty v_cut v_rowMany v_taken v_found v_textLong v_at v_stopped v_box hg212) (cwV 1 hts gX8_keepsFactor_X8_high rfl rfl rfl (by decide +kernel) ⟨Nat.le_of_ble_eq_true rfl, Nat.le_of_ble_eq_true rfl⟩) hK hP hD hS hA [0, 1] [] [0, 1] rfl rfl rfl rfl rfl rfl (by decide) rfl rfl rfl hl.1 rfl (Nat.le_of_ble_eq_true rfl) dX8_keepsFactor_212 (fun H locs hP hD hS => ?_)
  refine lv_iload hx hb dX8_keepsFactor_215 (lv_at hl 1 rfl) ?_
  refine lv_aload_n hx hb dX8_keepsFactor_217 rfl (lv_at hl 2 rfl) ?_
  refine lv_iload_n hx hb dX8_keepsFactor_218 rfl (lv_at hl 4 rfl) ?_
  obtain ⟨r219, hg219, hf⟩ := o_b1_go hf
  refine g_callVi (wn := (ww_X8_keepsFactor cI cM a_this a_this_all a_this_past a_this_refused a_this_box a_this_row a_this_text a_this_numbers a_this_before v_states v_empty v_cut v_rowMany v_taken v_found v_textLong v_at v_stopped v_box)) (rest := [.int z0, .int r212, .int r207, .int 1]) ⟨hx, hb, hml, hown, hts⟩ (c_X8_high l D cI cM a_this a_this_all a_this_past a_this_refused a_this_box a_this_row a_this_text a_this_numbers a_this_before H.size v_states v_empty v_cut v_rowMany v_taken v_found v_textLong v_at v_stopped v_box hg219) (cwV 1 hts gX8_keepsFactor_X8_high rfl rfl rfl (by decide +kernel) ⟨Nat.le_of_ble_eq_true rfl, Nat.le_of_ble_eq_true rfl⟩) hK hP hD hS hA [0, 1] [] [0, 1] rfl rfl rfl rfl rfl rfl (by decide) rfl rfl rfl hl.1 rfl (Nat.le_of_ble_eq_true rfl) dX8_keepsFactor_219 (fun H locs hP hD hS => ?_)
  refine lv_aload_n hx hb dX8_keepsFactor_222 rfl (lv_at hl 2 rfl) ?_
  refine lv_iload_n hx hb dX8_keepsFactor_223 rfl (lv_at hl 5 rfl) ?_
  obtain ⟨r224, hg224, hf⟩ := o_b1_go hf
  refine g_callVi (wn := (ww_X8_keepsFactor cI cM a_this a_this_all a_this_past a_this_refused a_this_box a_this_row a_this_text a_this_numbers a_this_before v_states v_empty v_cut v_rowMany v_taken v_found v_textLong v_at v_stopped v_box)) (rest := [.int r219, .int z0, .int r212, .int r207, .int 1]) ⟨hx, hb, hml, hown, hts⟩ (c_X8_high l D cI cM a_this a_this_all a_this_past a_this_refused a_this_box a_this_row a_this_text a_this_numbers a_this_before H.size v_states v_empty v_cut v_rowMany v_taken v_found v_textLong v_at v_stopped v_box hg224) (cwV 1 hts gX8_keepsFactor_X8_high rfl rfl rfl (by decide +kernel) ⟨Nat.le_of_ble_eq_true rfl, Nat.le_of_ble_eq_true rfl⟩) hK hP hD hS hA [0, 1] [] [0, 1] rfl rfl rfl rfl rfl rfl (by decide) rfl rfl rfl hl.1 rfl (Nat.le_of_ble_eq_true rfl) dX8_keepsFactor_224 (fun H locs hP hD hS => ?_)
  obtain ⟨r227, hg227, hf⟩ := o_b1_go hf
  refine g_callSl (rest := []) ⟨hx, hb, hml, hown, hts⟩ (c_X8_lastRising l hg227) (va_cwS 6 hts gX8_keepsFactor_X8_lastRising rfl rfl rfl (by decide +kernel) ⟨Nat.le_of_ble_eq_true rfl, Nat.le_of_ble_eq_true rfl⟩) rfl hl.1 rfl (Nat.le_of_ble_eq_true rfl) dX8_keepsFactor_227 ?_
  refine lv_lstore (lv' := [(11, .long r227), (9, .long r199), (8, .int z0), (0, .ref a_this), (1, .int x1), (2, .int x2), (3, .int x3), (4, .long x4), (6, .long x6)]) hx hb dX8_keepsFactor_230 hl (by decide) rfl (fun ls hl => ?_)
  refine lv_lload hx hb dX8_keepsFactor_232 (lv_at hl 1 rfl) ?_
  refine lv_lload hx hb dX8_keepsFactor_234 (lv_at hl 0 rfl) ?_
  refine W.lcmp hx hb dX8_keepsFactor_236 ?_
  refine lv_if_gt (tgt := 253) hx hb dX8_keepsFactor_237 (by decide) (fun c237 => ?_) (fun c237 => ?_)
  · replace hf := o_t c237 hf
    exact w_X8_keepsFactor_B253 C0 hA hK v_empty v_cut v_box x1 x4 x6 r199 r227 H locs ls hf hP hD hS (lv_sub hl [3, 4, 7, 8, 1, 0] rfl)
  · replace hf := o_f c237 hf
    refine lv_lload hx hb dX8_keepsFactor_240 (lv_at hl 1 rfl) ?_
    refine lv_lload hx hb dX8_keepsFactor_242 (lv_at hl 7 rfl) ?_
    refine W.lcmp hx hb dX8_keepsFactor_244 ?_
    refine lv_if_ge (tgt := 253) hx hb dX8_keepsFactor_245 (by decide) (fun c245 => ?_) (fun c245 => ?_)
    · replace hf := o_t c245 hf
      exact w_X8_keepsFactor_B253 C0 hA hK v_empty v_cut v_box x1 x4 x6 r199 r227 H locs ls hf hP hD hS (lv_sub hl [3, 4, 7, 8, 1, 0] rfl)
    · replace hf := o_f c245 hf
      refine lv_lload hx hb dX8_keepsFactor_248 (lv_at hl 1 rfl) ?_
      refine lv_goto (tgt := 255) hx hb dX8_keepsFactor_250 (by decide) ?_
      exact w_X8_keepsFactor_B255 C0 hA hK v_empty v_cut v_box x1 x6 r199 r227 r199 H locs ls hf hP hD hS (lv_sub hl [3, 4, 8, 1, 0] rfl)
def f_X8_keepsFactor_B149 (N : Nat) (v_empty : Int32) (v_cut : Int32) (v_box : Nat → Int32) (x1 : Int32) (x2 : Int32) (x3 : Int32) (x4 : Int64) (x6 : Int64) : Option (Int32 × Int32 × (Nat → Int32)) :=
  o_b1 (f_X8_high v_box x2) (fun (r151 : Int32) =>
  if r151 < 0 then
    f_X8_keepsFactor_B282 N v_empty v_cut v_box x1 x4 x6
  else
    o_b1 (f_X8_low v_box x2) (fun (r159 : Int32) =>
    if 0 ≤ r159 then
      o_b1 (f_X8_low v_box x2) (fun (r171 : Int32) =>
      f_X8_keepsFactor_B174 N v_empty v_cut v_box x1 x2 x3 x4 x6 r171)
    else
      f_X8_keepsFactor_B174 N v_empty v_cut v_box x1 x2 x3 x4 x6 0))
set_option maxHeartbeats 4000000 in
set_option maxRecDepth 100000 in
theorem w_X8_keepsFactor_B149 {p : Program} {l : Launch} {e : Env} {s : State} {m : MethodId} {args : Array Value} {below : List Frame} {meth : Method} {c : Code} {D : va_G} {cI cM : ClassId} {A : Nat → Prop} {a_this a_this_all a_this_past a_this_refused a_this_box a_this_row a_this_text a_this_numbers a_this_before : Nat} {v_states : Int32} {v_rowMany : Int32} {v_taken : Int32} {v_found : Int32} {v_textLong : Int32} {v_at : Int32} {v_stopped : Int32} {N : Nat} {o_empty : Int32} {o_cut : Int32} {o_box : Nat → Int32} (C0 : g_cx cX8_keepsFactor none 13 RX8 wsX8_keepsFactor p s m args meth c) (hA : ∀ q, s.heap.size ≤ q → A q) (hK : va_K D vwCl (g_tys cI cM) s) : ∀ (v_empty : Int32) (v_cut : Int32) (v_box : Nat → Int32) (x1 : Int32) (x2 : Int32) (x3 : Int32) (x4 : Int64) (x6 : Int64) (H : Heap) (locs : List Loc) (ls : Array Slot), f_X8_keepsFactor_B149 N v_empty v_cut v_box x1 x2 x3 x4 x6 = some (o_empty, o_cut, o_box) → va_P D vwCl (ww_X8_keepsFactor cI cM a_this a_this_all a_this_past a_this_refused a_this_box a_this_row a_this_text a_this_numbers a_this_before v_states v_empty v_cut v_rowMany v_taken v_found v_textLong v_at v_stopped v_box) H → va_D A (ww_X8_keepsFactor cI cM a_this a_this_all a_this_past a_this_refused a_this_box a_this_row a_this_text a_this_numbers a_this_before v_states v_empty v_cut v_rowMany v_taken v_found v_textLong v_at v_stopped v_box) → va_S A s.heap H locs → lv_has ls 13 [(0, .ref a_this), (1, .int x1), (2, .int x2), (3, .int x3), (4, .long x4), (6, .long x6)] → W p l e rm_X8_keepsFactor s m args below meth c H locs 0 0 (MQ below (g_QV D (g_tys cI cM) A (ww_X8_keepsFactor cI cM a_this a_this_all a_this_past a_this_refused a_this_box a_this_row a_this_text a_this_numbers a_this_before v_states o_empty o_cut v_rowMany v_taken v_found v_textLong v_at v_stopped o_box)) args s 0 0 A) (F0 m 149 ls []) := by
  obtain ⟨hx, hb, hr, hml, hown, hts, hlocks⟩ := id C0
  intro v_empty v_cut v_box x1 x2 x3 x4 x6 H locs ls hf hP hD hS hl
  unfold f_X8_keepsFactor_B149 at hf
  refine lv_aload_n hx hb dX8_keepsFactor_149 rfl (lv_at hl 0 rfl) ?_
  refine lv_iload_n hx hb dX8_keepsFactor_150 rfl (lv_at hl 2 rfl) ?_
  obtain ⟨r151, hg151, hf⟩ := o_b1_go hf
  refine g_callVi (wn := (ww_X8_keepsFactor cI cM a_this a_this_all a_this_past a_this_refused a_this_box a_this_row a_this_text a_this_numbers a_this_before v_states v_empty v_cut v_rowMany v_taken v_found v_textLong v_at v_stopped v_box)) (rest := []) ⟨hx, hb, hml, hown, hts⟩ (c_X8_high l D cI cM a_this a_this_all a_this_past a_this_refused a_this_box a_this_row a_this_text a_this_numbers a_this_before H.size v_states v_empty v_cut v_rowMany v_taken v_found v_textLong v_at v_stopped v_box hg151) (cwV 1 hts gX8_keepsFactor_X8_high rfl rfl rfl (by decide +kernel) ⟨Nat.le_of_ble_eq_true rfl, Nat.le_of_ble_eq_true rfl⟩) hK hP hD hS hA [0, 1] [] [0, 1] rfl rfl rfl rfl rfl rfl (by decide) rfl rfl rfl hl.1 rfl (Nat.le_of_ble_eq_true rfl) dX8_keepsFactor_151 (fun H locs hP hD hS => ?_)
  refine lv_if_lt (tgt := 282) hx hb dX8_keepsFactor_154 (by decide) (fun c154 => ?_) (fun c154 => ?_)
  · replace hf := o_t c154 hf
    exact w_X8_keepsFactor_B282 C0 hA hK v_empty v_cut v_box x1 x4 x6 H locs ls hf hP hD hS (lv_sub hl [0, 1, 4, 5] rfl)
  · replace hf := o_f c154 hf
    refine lv_aload_n hx hb dX8_keepsFactor_157 rfl (lv_at hl 0 rfl) ?_
    refine lv_iload_n hx hb dX8_keepsFactor_158 rfl (lv_at hl 2 rfl) ?_
    obtain ⟨r159, hg159, hf⟩ := o_b1_go hf
    refine g_callVi (wn := (ww_X8_keepsFactor cI cM a_this a_this_all a_this_past a_this_refused a_this_box a_this_row a_this_text a_this_numbers a_this_before v_states v_empty v_cut v_rowMany v_taken v_found v_textLong v_at v_stopped v_box)) (rest := []) ⟨hx, hb, hml, hown, hts⟩ (c_X8_low l D cI cM a_this a_this_all a_this_past a_this_refused a_this_box a_this_row a_this_text a_this_numbers a_this_before H.size v_states v_empty v_cut v_rowMany v_taken v_found v_textLong v_at v_stopped v_box hg159) (cwV 1 hts gX8_keepsFactor_X8_low rfl rfl rfl (by decide +kernel) ⟨Nat.le_of_ble_eq_true rfl, Nat.le_of_ble_eq_true rfl⟩) hK hP hD hS hA [0, 1] [] [0, 1] rfl rfl rfl rfl rfl rfl (by decide) rfl rfl rfl hl.1 rfl (Nat.le_of_ble_eq_true rfl) dX8_keepsFactor_159 (fun H locs hP hD hS => ?_)
    refine lv_if_ge (tgt := 169) hx hb dX8_keepsFactor_162 (by decide) (fun c162 => ?_) (fun c162 => ?_)
    · replace hf := o_t c162 hf
      refine lv_aload_n hx hb dX8_keepsFactor_169 rfl (lv_at hl 0 rfl) ?_
      refine lv_iload_n hx hb dX8_keepsFactor_170 rfl (lv_at hl 2 rfl) ?_
      obtain ⟨r171, hg171, hf⟩ := o_b1_go hf
      refine g_callVi (wn := (ww_X8_keepsFactor cI cM a_this a_this_all a_this_past a_this_refused a_this_box a_this_row a_this_text a_this_numbers a_this_before v_states v_empty v_cut v_rowMany v_taken v_found v_textLong v_at v_stopped v_box)) (rest := []) ⟨hx, hb, hml, hown, hts⟩ (c_X8_low l D cI cM a_this a_this_all a_this_past a_this_refused a_this_box a_this_row a_this_text a_this_numbers a_this_before H.size v_states v_empty v_cut v_rowMany v_taken v_found v_textLong v_at v_stopped v_box hg171) (cwV 1 hts gX8_keepsFactor_X8_low rfl rfl rfl (by decide +kernel) ⟨Nat.le_of_ble_eq_true rfl, Nat.le_of_ble_eq_true rfl⟩) hK hP hD hS hA [0, 1] [] [0, 1] rfl rfl rfl rfl rfl rfl (by decide) rfl rfl rfl hl.1 rfl (Nat.le_of_ble_eq_true rfl) dX8_keepsFactor_171 (fun H locs hP hD hS => ?_)
      exact w_X8_keepsFactor_B174 C0 hA hK v_empty v_cut v_box x1 x2 x3 x4 x6 r171 H locs ls hf hP hD hS (lv_sub hl [0, 1, 2, 3, 4, 5] rfl)
    · replace hf := o_f c162 hf
      refine lv_iconst (v := 0) hx hb dX8_keepsFactor_165 (by decide) ?_
      refine lv_goto (tgt := 174) hx hb dX8_keepsFactor_166 (by decide) ?_
      exact w_X8_keepsFactor_B174 C0 hA hK v_empty v_cut v_box x1 x2 x3 x4 x6 0 H locs ls hf hP hD hS (lv_sub hl [0, 1, 2, 3, 4, 5] rfl)
def f_X8_keepsFactor_B147 (N : Nat) (v_empty : Int32) (v_cut : Int32) (v_box : Nat → Int32) (x1 : Int32) (x2 : Int32) (x3 : Int32) (x4 : Int64) (z0 : Int64) : Option (Int32 × Int32 × (Nat → Int32)) :=
  f_X8_keepsFactor_B149 N v_empty v_cut v_box x1 x2 x3 x4 z0
set_option maxHeartbeats 4000000 in
set_option maxRecDepth 100000 in
theorem w_X8_keepsFactor_B147 {p : Program} {l : Launch} {e : Env} {s : State} {m : MethodId} {args : Array Value} {below : List Frame} {meth : Method} {c : Code} {D : va_G} {cI cM : ClassId} {A : Nat → Prop} {a_this a_this_all a_this_past a_this_refused a_this_box a_this_row a_this_text a_this_numbers a_this_before : Nat} {v_states : Int32} {v_rowMany : Int32} {v_taken : Int32} {v_found : Int32} {v_textLong : Int32} {v_at : Int32} {v_stopped : Int32} {N : Nat} {o_empty : Int32} {o_cut : Int32} {o_box : Nat → Int32} (C0 : g_cx cX8_keepsFactor none 13 RX8 wsX8_keepsFactor p s m args meth c) (hA : ∀ q, s.heap.size ≤ q → A q) (hK : va_K D vwCl (g_tys cI cM) s) : ∀ (v_empty : Int32) (v_cut : Int32) (v_box : Nat → Int32) (x1 : Int32) (x2 : Int32) (x3 : Int32) (x4 : Int64) (z0 : Int64) (H : Heap) (locs : List Loc) (ls : Array Slot), f_X8_keepsFactor_B147 N v_empty v_cut v_box x1 x2 x3 x4 z0 = some (o_empty, o_cut, o_box) → va_P D vwCl (ww_X8_keepsFactor cI cM a_this a_this_all a_this_past a_this_refused a_this_box a_this_row a_this_text a_this_numbers a_this_before v_states v_empty v_cut v_rowMany v_taken v_found v_textLong v_at v_stopped v_box) H → va_D A (ww_X8_keepsFactor cI cM a_this a_this_all a_this_past a_this_refused a_this_box a_this_row a_this_text a_this_numbers a_this_before v_states v_empty v_cut v_rowMany v_taken v_found v_textLong v_at v_stopped v_box) → va_S A s.heap H locs → lv_has ls 13 [(0, .ref a_this), (1, .int x1), (2, .int x2), (3, .int x3), (4, .long x4)] → W p l e rm_X8_keepsFactor s m args below meth c H locs 0 0 (MQ below (g_QV D (g_tys cI cM) A (ww_X8_keepsFactor cI cM a_this a_this_all a_this_past a_this_refused a_this_box a_this_row a_this_text a_this_numbers a_this_before v_states o_empty o_cut v_rowMany v_taken v_found v_textLong v_at v_stopped o_box)) args s 0 0 A) (F0 m 147 ls [.long z0]) := by
  obtain ⟨hx, hb, hr, hml, hown, hts, hlocks⟩ := id C0
  intro v_empty v_cut v_box x1 x2 x3 x4 z0 H locs ls hf hP hD hS hl
  unfold f_X8_keepsFactor_B147 at hf
  refine lv_lstore (lv' := [(6, .long z0), (0, .ref a_this), (1, .int x1), (2, .int x2), (3, .int x3), (4, .long x4)]) hx hb dX8_keepsFactor_147 hl (by decide) rfl (fun ls hl => ?_)
  exact w_X8_keepsFactor_B149 C0 hA hK v_empty v_cut v_box x1 x2 x3 x4 z0 H locs ls hf hP hD hS (lv_sub hl [1, 2, 3, 4, 5, 0] rfl)
def f_X8_keepsFactor_B145 (N : Nat) (v_empty : Int32) (v_cut : Int32) (v_box : Nat → Int32) (x1 : Int32) (x2 : Int32) (x3 : Int32) (x4 : Int64) (x6 : Int64) : Option (Int32 × Int32 × (Nat → Int32)) :=
  f_X8_keepsFactor_B147 N v_empty v_cut v_box x1 x2 x3 x4 x6
set_option maxHeartbeats 4000000 in
set_option maxRecDepth 100000 in
theorem w_X8_keepsFactor_B145 {p : Program} {l : Launch} {e : Env} {s : State} {m : MethodId} {args : Array Value} {below : List Frame} {meth : Method} {c : Code} {D : va_G} {cI cM : ClassId} {A : Nat → Prop} {a_this a_this_all a_this_past a_this_refused a_this_box a_this_row a_this_text a_this_numbers a_this_before : Nat} {v_states : Int32} {v_rowMany : Int32} {v_taken : Int32} {v_found : Int32} {v_textLong : Int32} {v_at : Int32} {v_stopped : Int32} {N : Nat} {o_empty : Int32} {o_cut : Int32} {o_box : Nat → Int32} (C0 : g_cx cX8_keepsFactor none 13 RX8 wsX8_keepsFactor p s m args meth c) (hA : ∀ q, s.heap.size ≤ q → A q) (hK : va_K D vwCl (g_tys cI cM) s) : ∀ (v_empty : Int32) (v_cut : Int32) (v_box : Nat → Int32) (x1 : Int32) (x2 : Int32) (x3 : Int32) (x4 : Int64) (x6 : Int64) (H : Heap) (locs : List Loc) (ls : Array Slot), f_X8_keepsFactor_B145 N v_empty v_cut v_box x1 x2 x3 x4 x6 = some (o_empty, o_cut, o_box) → va_P D vwCl (ww_X8_keepsFactor cI cM a_this a_this_all a_this_past a_this_refused a_this_box a_this_row a_this_text a_this_numbers a_this_before v_states v_empty v_cut v_rowMany v_taken v_found v_textLong v_at v_stopped v_box) H → va_D A (ww_X8_keepsFactor cI cM a_this a_this_all a_this_past a_this_refused a_this_box a_this_row a_this_text a_this_numbers a_this_before v_states v_empty v_cut v_rowMany v_taken v_found v_textLong v_at v_stopped v_box) → va_S A s.heap H locs → lv_has ls 13 [(0, .ref a_this), (1, .int x1), (2, .int x2), (3, .int x3), (4, .long x4), (6, .long x6)] → W p l e rm_X8_keepsFactor s m args below meth c H locs 0 0 (MQ below (g_QV D (g_tys cI cM) A (ww_X8_keepsFactor cI cM a_this a_this_all a_this_past a_this_refused a_this_box a_this_row a_this_text a_this_numbers a_this_before v_states o_empty o_cut v_rowMany v_taken v_found v_textLong v_at v_stopped o_box)) args s 0 0 A) (F0 m 145 ls []) := by
  obtain ⟨hx, hb, hr, hml, hown, hts, hlocks⟩ := id C0
  intro v_empty v_cut v_box x1 x2 x3 x4 x6 H locs ls hf hP hD hS hl
  unfold f_X8_keepsFactor_B145 at hf
  refine lv_lload hx hb dX8_keepsFactor_145 (lv_at hl 5 rfl) ?_
  exact w_X8_keepsFactor_B147 C0 hA hK v_empty v_cut v_box x1 x2 x3 x4 x6 H locs ls hf hP hD hS (lv_sub hl [0, 1, 2, 3, 4] rfl)
def f_X8_keepsFactor_B122 (N : Nat) (v_empty : Int32) (v_cut : Int32) (v_box : Nat → Int32) (x1 : Int32) (x2 : Int32) (x3 : Int32) (x6 : Int64) (x9 : Int64) (x11 : Int64) (z0 : Int64) : Option (Int32 × Int32 × (Nat → Int32)) :=
  if 0 < (lg_cmp x9 x11) then
    f_X8_keepsFactor_B145 N v_empty v_cut v_box x1 x2 x3 z0 x6
  else
    if (lg_cmp x11 x6) ≤ 0 then
      f_X8_keepsFactor_B145 N v_empty v_cut v_box x1 x2 x3 z0 x6
    else
      f_X8_keepsFactor_B147 N v_empty v_cut v_box x1 x2 x3 z0 x11
set_option maxHeartbeats 4000000 in
set_option maxRecDepth 100000 in
theorem w_X8_keepsFactor_B122 {p : Program} {l : Launch} {e : Env} {s : State} {m : MethodId} {args : Array Value} {below : List Frame} {meth : Method} {c : Code} {D : va_G} {cI cM : ClassId} {A : Nat → Prop} {a_this a_this_all a_this_past a_this_refused a_this_box a_this_row a_this_text a_this_numbers a_this_before : Nat} {v_states : Int32} {v_rowMany : Int32} {v_taken : Int32} {v_found : Int32} {v_textLong : Int32} {v_at : Int32} {v_stopped : Int32} {N : Nat} {o_empty : Int32} {o_cut : Int32} {o_box : Nat → Int32} (C0 : g_cx cX8_keepsFactor none 13 RX8 wsX8_keepsFactor p s m args meth c) (hA : ∀ q, s.heap.size ≤ q → A q) (hK : va_K D vwCl (g_tys cI cM) s) : ∀ (v_empty : Int32) (v_cut : Int32) (v_box : Nat → Int32) (x1 : Int32) (x2 : Int32) (x3 : Int32) (x6 : Int64) (x9 : Int64) (x11 : Int64) (z0 : Int64) (H : Heap) (locs : List Loc) (ls : Array Slot), f_X8_keepsFactor_B122 N v_empty v_cut v_box x1 x2 x3 x6 x9 x11 z0 = some (o_empty, o_cut, o_box) → va_P D vwCl (ww_X8_keepsFactor cI cM a_this a_this_all a_this_past a_this_refused a_this_box a_this_row a_this_text a_this_numbers a_this_before v_states v_empty v_cut v_rowMany v_taken v_found v_textLong v_at v_stopped v_box) H → va_D A (ww_X8_keepsFactor cI cM a_this a_this_all a_this_past a_this_refused a_this_box a_this_row a_this_text a_this_numbers a_this_before v_states v_empty v_cut v_rowMany v_taken v_found v_textLong v_at v_stopped v_box) → va_S A s.heap H locs → lv_has ls 13 [(0, .ref a_this), (1, .int x1), (2, .int x2), (3, .int x3), (6, .long x6), (9, .long x9), (11, .long x11)] → W p l e rm_X8_keepsFactor s m args below meth c H locs 0 0 (MQ below (g_QV D (g_tys cI cM) A (ww_X8_keepsFactor cI cM a_this a_this_all a_this_past a_this_refused a_this_box a_this_row a_this_text a_this_numbers a_this_before v_states o_empty o_cut v_rowMany v_taken v_found v_textLong v_at v_stopped o_box)) args s 0 0 A) (F0 m 122 ls [.long z0]) := by
  obtain ⟨hx, hb, hr, hml, hown, hts, hlocks⟩ := id C0
  intro v_empty v_cut v_box x1 x2 x3 x6 x9 x11 z0 H locs ls hf hP hD hS hl
  unfold f_X8_keepsFactor_B122 at hf
  refine lv_lstore (lv' := [(4, .long z0), (0, .ref a_this), (1, .int x1), (2, .int x2), (3, .int x3), (6, .long x6), (9, .long x9), (11, .long x11)]) hx hb dX8_keepsFactor_122 hl (by decide) rfl (fun ls hl => ?_)
  refine lv_lload hx hb dX8_keepsFactor_124 (lv_at hl 6 rfl) ?_
  refine lv_lload hx hb dX8_keepsFactor_126 (lv_at hl 7 rfl) ?_
  refine W.lcmp hx hb dX8_keepsFactor_128 ?_
  refine lv_if_gt (tgt := 145) hx hb dX8_keepsFactor_129 (by decide) (fun c129 => ?_) (fun c129 => ?_)
  · replace hf := o_t c129 hf
    exact w_X8_keepsFactor_B145 C0 hA hK v_empty v_cut v_box x1 x2 x3 z0 x6 H locs ls hf hP hD hS (lv_sub hl [1, 2, 3, 4, 0, 5] rfl)
  · replace hf := o_f c129 hf
    refine lv_lload hx hb dX8_keepsFactor_132 (lv_at hl 7 rfl) ?_
    refine lv_lload hx hb dX8_keepsFactor_134 (lv_at hl 5 rfl) ?_
    refine W.lcmp hx hb dX8_keepsFactor_136 ?_
    refine lv_if_le (tgt := 145) hx hb dX8_keepsFactor_137 (by decide) (fun c137 => ?_) (fun c137 => ?_)
    · replace hf := o_t c137 hf
      exact w_X8_keepsFactor_B145 C0 hA hK v_empty v_cut v_box x1 x2 x3 z0 x6 H locs ls hf hP hD hS (lv_sub hl [1, 2, 3, 4, 0, 5] rfl)
    · replace hf := o_f c137 hf
      refine lv_lload hx hb dX8_keepsFactor_140 (lv_at hl 7 rfl) ?_
      refine lv_goto (tgt := 147) hx hb dX8_keepsFactor_142 (by decide) ?_
      exact w_X8_keepsFactor_B147 C0 hA hK v_empty v_cut v_box x1 x2 x3 z0 x11 H locs ls hf hP hD hS (lv_sub hl [1, 2, 3, 4, 0] rfl)
def f_X8_keepsFactor_B120 (N : Nat) (v_empty : Int32) (v_cut : Int32) (v_box : Nat → Int32) (x1 : Int32) (x2 : Int32) (x3 : Int32) (x4 : Int64) (x6 : Int64) (x9 : Int64) (x11 : Int64) : Option (Int32 × Int32 × (Nat → Int32)) :=
  f_X8_keepsFactor_B122 N v_empty v_cut v_box x1 x2 x3 x6 x9 x11 x4
set_option maxHeartbeats 4000000 in
set_option maxRecDepth 100000 in
theorem w_X8_keepsFactor_B120 {p : Program} {l : Launch} {e : Env} {s : State} {m : MethodId} {args : Array Value} {below : List Frame} {meth : Method} {c : Code} {D : va_G} {cI cM : ClassId} {A : Nat → Prop} {a_this a_this_all a_this_past a_this_refused a_this_box a_this_row a_this_text a_this_numbers a_this_before : Nat} {v_states : Int32} {v_rowMany : Int32} {v_taken : Int32} {v_found : Int32} {v_textLong : Int32} {v_at : Int32} {v_stopped : Int32} {N : Nat} {o_empty : Int32} {o_cut : Int32} {o_box : Nat → Int32} (C0 : g_cx cX8_keepsFactor none 13 RX8 wsX8_keepsFactor p s m args meth c) (hA : ∀ q, s.heap.size ≤ q → A q) (hK : va_K D vwCl (g_tys cI cM) s) : ∀ (v_empty : Int32) (v_cut : Int32) (v_box : Nat → Int32) (x1 : Int32) (x2 : Int32) (x3 : Int32) (x4 : Int64) (x6 : Int64) (x9 : Int64) (x11 : Int64) (H : Heap) (locs : List Loc) (ls : Array Slot), f_X8_keepsFactor_B120 N v_empty v_cut v_box x1 x2 x3 x4 x6 x9 x11 = some (o_empty, o_cut, o_box) → va_P D vwCl (ww_X8_keepsFactor cI cM a_this a_this_all a_this_past a_this_refused a_this_box a_this_row a_this_text a_this_numbers a_this_before v_states v_empty v_cut v_rowMany v_taken v_found v_textLong v_at v_stopped v_box) H → va_D A (ww_X8_keepsFactor cI cM a_this a_this_all a_this_past a_this_refused a_this_box a_this_row a_this_text a_this_numbers a_this_before v_states v_empty v_cut v_rowMany v_taken v_found v_textLong v_at v_stopped v_box) → va_S A s.heap H locs → lv_has ls 13 [(0, .ref a_this), (1, .int x1), (2, .int x2), (3, .int x3), (4, .long x4), (6, .long x6), (9, .long x9), (11, .long x11)] → W p l e rm_X8_keepsFactor s m args below meth c H locs 0 0 (MQ below (g_QV D (g_tys cI cM) A (ww_X8_keepsFactor cI cM a_this a_this_all a_this_past a_this_refused a_this_box a_this_row a_this_text a_this_numbers a_this_before v_states o_empty o_cut v_rowMany v_taken v_found v_textLong v_at v_stopped o_box)) args s 0 0 A) (F0 m 120 ls []) := by
  obtain ⟨hx, hb, hr, hml, hown, hts, hlocks⟩ := id C0
  intro v_empty v_cut v_box x1 x2 x3 x4 x6 x9 x11 H locs ls hf hP hD hS hl
  unfold f_X8_keepsFactor_B120 at hf
  refine lv_lload hx hb dX8_keepsFactor_120 (lv_at hl 4 rfl) ?_
  exact w_X8_keepsFactor_B122 C0 hA hK v_empty v_cut v_box x1 x2 x3 x6 x9 x11 x4 H locs ls hf hP hD hS (lv_sub hl [0, 1, 2, 3, 5, 6, 7] rfl)
def f_X8_keepsFactor_B43 (N : Nat) (v_empty : Int32) (v_cut : Int32) (v_box : Nat → Int32) (x1 : Int32) (x2 : Int32) (x3 : Int32) (x4 : Int64) (x6 : Int64) (z0 : Int32) : Option (Int32 × Int32 × (Nat → Int32)) :=
  o_b1 (f_X8_low v_box x1) (fun (r47 : Int32) =>
  o_b1 (f_X8_high v_box x1) (fun (r52 : Int32) =>
  o_b1 (f_X8_low v_box x2) (fun (r57 : Int32) =>
  o_b1 (f_X8_high v_box x3) (fun (r64 : Int32) =>
  o_b1 (f_X8_firstFalling N r47 r52 r57 z0 r64) (fun (r67 : Int64) =>
  o_b1 (f_X8_low v_box x1) (fun (r74 : Int32) =>
  o_b1 (f_X8_high v_box x1) (fun (r79 : Int32) =>
  o_b1 (f_X8_low v_box x2) (fun (r84 : Int32) =>
  o_b1 (f_X8_low v_box x3) (fun (r91 : Int32) =>
  o_b1 (f_X8_lastFalling N r74 r79 r84 z0 r91) (fun (r94 : Int64) =>
  if 0 < (lg_cmp r67 r94) then
    f_X8_keepsFactor_B120 N v_empty v_cut v_box x1 x2 x3 x4 x6 r67 r94
  else
    if 0 ≤ (lg_cmp r67 x4) then
      f_X8_keepsFactor_B120 N v_empty v_cut v_box x1 x2 x3 x4 x6 r67 r94
    else
      f_X8_keepsFactor_B122 N v_empty v_cut v_box x1 x2 x3 x6 r67 r94 r67))))))))))
set_option maxHeartbeats 4000000 in
set_option maxRecDepth 100000 in
theorem w_X8_keepsFactor_B43 {p : Program} {l : Launch} {e : Env} {s : State} {m : MethodId} {args : Array Value} {below : List Frame} {meth : Method} {c : Code} {D : va_G} {cI cM : ClassId} {A : Nat → Prop} {a_this a_this_all a_this_past a_this_refused a_this_box a_this_row a_this_text a_this_numbers a_this_before : Nat} {v_states : Int32} {v_rowMany : Int32} {v_taken : Int32} {v_found : Int32} {v_textLong : Int32} {v_at : Int32} {v_stopped : Int32} {N : Nat} {o_empty : Int32} {o_cut : Int32} {o_box : Nat → Int32} (C0 : g_cx cX8_keepsFactor none 13 RX8 wsX8_keepsFactor p s m args meth c) (hA : ∀ q, s.heap.size ≤ q → A q) (hK : va_K D vwCl (g_tys cI cM) s) : ∀ (v_empty : Int32) (v_cut : Int32) (v_box : Nat → Int32) (x1 : Int32) (x2 : Int32) (x3 : Int32) (x4 : Int64) (x6 : Int64) (z0 : Int32) (H : Heap) (locs : List Loc) (ls : Array Slot), f_X8_keepsFactor_B43 N v_empty v_cut v_box x1 x2 x3 x4 x6 z0 = some (o_empty, o_cut, o_box) → va_P D vwCl (ww_X8_keepsFactor cI cM a_this a_this_all a_this_past a_this_refused a_this_box a_this_row a_this_text a_this_numbers a_this_before v_states v_empty v_cut v_rowMany v_taken v_found v_textLong v_at v_stopped v_box) H → va_D A (ww_X8_keepsFactor cI cM a_this a_this_all a_this_past a_this_refused a_this_box a_this_row a_this_text a_this_numbers a_this_before v_states v_empty v_cut v_rowMany v_taken v_found v_textLong v_at v_stopped v_box) → va_S A s.heap H locs → lv_has ls 13 [(0, .ref a_this), (1, .int x1), (2, .int x2), (3, .int x3), (4, .long x4), (6, .long x6)] → W p l e rm_X8_keepsFactor s m args below meth c H locs 0 0 (MQ below (g_QV D (g_tys cI cM) A (ww_X8_keepsFactor cI cM a_this a_this_all a_this_past a_this_refused a_this_box a_this_row a_this_text a_this_numbers a_this_before v_states o_empty o_cut v_rowMany v_taken v_found v_textLong v_at v_stopped o_box)) args s 0 0 A) (F0 m 43 ls [.int z0]) := by
  obtain ⟨hx, hb, hr, hml, hown, hts, hlocks⟩ := id C0
  intro v_empty v_cut v_box x1 x2 x3 x4 x6 z0 H locs ls hf hP hD hS hl
  unfold f_X8_keepsFactor_B43 at hf
  refine lv_istore (lv' := [(8, .int z0), (0, .ref a_this), (1, .int x1), (2, .int x2), (3, .int x3), (4, .long x4), (6, .long x6)]) hx hb dX8_keepsFactor_43 hl (by decide) rfl (fun ls hl => ?_)
  refine lv_aload_n hx hb dX8_keepsFactor_45 rfl (lv_at hl 1 rfl) ?_
  refine lv_iload_n hx hb dX8_keepsFactor_46 rfl (lv_at hl 2 rfl) ?_
  obtain ⟨r47, hg47, hf⟩ := o_b1_go hf
  refine g_callVi (wn := (ww_X8_keepsFactor cI cM a_this a_this_all a_this_past a_this_refused a_this_box a_this_row a_this_text a_this_numbers a_this_before v_states v_empty v_cut v_rowMany v_taken v_found v_textLong v_at v_stopped v_box)) (rest := []) ⟨hx, hb, hml, hown, hts⟩ (c_X8_low l D cI cM a_this a_this_all a_this_past a_this_refused a_this_box a_this_row a_this_text a_this_numbers a_this_before H.size v_states v_empty v_cut v_rowMany v_taken v_found v_textLong v_at v_stopped v_box hg47) (cwV 1 hts gX8_keepsFactor_X8_low rfl rfl rfl (by decide +kernel) ⟨Nat.le_of_ble_eq_true rfl, Nat.le_of_ble_eq_true rfl⟩) hK hP hD hS hA [0, 1] [] [0, 1] rfl rfl rfl rfl rfl rfl (by decide) rfl rfl rfl hl.1 rfl (Nat.le_of_ble_eq_true rfl) dX8_keepsFactor_47 (fun H locs hP hD hS => ?_)
  refine lv_aload_n hx hb dX8_keepsFactor_50 rfl (lv_at hl 1 rfl) ?_
  refine lv_iload_n hx hb dX8_keepsFactor_51 rfl (lv_at hl 2 rfl) ?_
  obtain ⟨r52, hg52, hf⟩ := o_b1_go hf
  refine g_callVi (wn := (ww_X8_keepsFactor cI cM a_this a_this_all a_this_past a_this_refused a_this_box a_this_row a_this_text a_this_numbers a_this_before v_states v_empty v_cut v_rowMany v_taken v_found v_textLong v_at v_stopped v_box)) (rest := [.int r47]) ⟨hx, hb, hml, hown, hts⟩ (c_X8_high l D cI cM a_this a_this_all a_this_past a_this_refused a_this_box a_this_row a_this_text a_this_numbers a_this_before H.size v_states v_empty v_cut v_rowMany v_taken v_found v_textLong v_at v_stopped v_box hg52) (cwV 1 hts gX8_keepsFactor_X8_high rfl rfl rfl (by decide +kernel) ⟨Nat.le_of_ble_eq_true rfl, Nat.le_of_ble_eq_true rfl⟩) hK hP hD hS hA [0, 1] [] [0, 1] rfl rfl rfl rfl rfl rfl (by decide) rfl rfl rfl hl.1 rfl (Nat.le_of_ble_eq_true rfl) dX8_keepsFactor_52 (fun H locs hP hD hS => ?_)
  refine lv_aload_n hx hb dX8_keepsFactor_55 rfl (lv_at hl 1 rfl) ?_
  refine lv_iload_n hx hb dX8_keepsFactor_56 rfl (lv_at hl 3 rfl) ?_
  obtain ⟨r57, hg57, hf⟩ := o_b1_go hf
  refine g_callVi (wn := (ww_X8_keepsFactor cI cM a_this a_this_all a_this_past a_this_refused a_this_box a_this_row a_this_text a_this_numbers a_this_before v_states v_empty v_cut v_rowMany v_taken v_found v_textLong v_at v_stopped v_box)) (rest := [.int r52, .int r47]) ⟨hx, hb, hml, hown, hts⟩ (c_X8_low l D cI cM a_this a_this_all a_this_past a_this_refused a_this_box a_this_row a_this_text a_this_numbers a_this_before H.size v_states v_empty v_cut v_rowMany v_taken v_found v_textLong v_at v_stopped v_box hg57) (cwV 1 hts gX8_keepsFactor_X8_low rfl rfl rfl (by decide +kernel) ⟨Nat.le_of_ble_eq_true rfl, Nat.le_of_ble_eq_true rfl⟩) hK hP hD hS hA [0, 1] [] [0, 1] rfl rfl rfl rfl rfl rfl (by decide) rfl rfl rfl hl.1 rfl (Nat.le_of_ble_eq_true rfl) dX8_keepsFactor_57 (fun H locs hP hD hS => ?_)
  refine lv_iload hx hb dX8_keepsFactor_60 (lv_at hl 0 rfl) ?_
  refine lv_aload_n hx hb dX8_keepsFactor_62 rfl (lv_at hl 1 rfl) ?_
  refine lv_iload_n hx hb dX8_keepsFactor_63 rfl (lv_at hl 4 rfl) ?_
  obtain ⟨r64, hg64, hf⟩ := o_b1_go hf
  refine g_callVi (wn := (ww_X8_keepsFactor cI cM a_this a_this_all a_this_past a_this_refused a_this_box a_this_row a_this_text a_this_numbers a_this_before v_states v_empty v_cut v_rowMany v_taken v_found v_textLong v_at v_stopped v_box)) (rest := [.int z0, .int r57, .int r52, .int r47]) ⟨hx, hb, hml, hown, hts⟩ (c_X8_high l D cI cM a_this a_this_all a_this_past a_this_refused a_this_box a_this_row a_this_text a_this_numbers a_this_before H.size v_states v_empty v_cut v_rowMany v_taken v_found v_textLong v_at v_stopped v_box hg64) (cwV 1 hts gX8_keepsFactor_X8_high rfl rfl rfl (by decide +kernel) ⟨Nat.le_of_ble_eq_true rfl, Nat.le_of_ble_eq_true rfl⟩) hK hP hD hS hA [0, 1] [] [0, 1] rfl rfl rfl rfl rfl rfl (by decide) rfl rfl rfl hl.1 rfl (Nat.le_of_ble_eq_true rfl) dX8_keepsFactor_64 (fun H locs hP hD hS => ?_)
  obtain ⟨r67, hg67, hf⟩ := o_b1_go hf
  refine g_callSl (rest := []) ⟨hx, hb, hml, hown, hts⟩ (c_X8_firstFalling l hg67) (va_cwS 5 hts gX8_keepsFactor_X8_firstFalling rfl rfl rfl (by decide +kernel) ⟨Nat.le_of_ble_eq_true rfl, Nat.le_of_ble_eq_true rfl⟩) rfl hl.1 rfl (Nat.le_of_ble_eq_true rfl) dX8_keepsFactor_67 ?_
  refine lv_lstore (lv' := [(9, .long r67), (8, .int z0), (0, .ref a_this), (1, .int x1), (2, .int x2), (3, .int x3), (4, .long x4), (6, .long x6)]) hx hb dX8_keepsFactor_70 hl (by decide) rfl (fun ls hl => ?_)
  refine lv_aload_n hx hb dX8_keepsFactor_72 rfl (lv_at hl 2 rfl) ?_
  refine lv_iload_n hx hb dX8_keepsFactor_73 rfl (lv_at hl 3 rfl) ?_
  obtain ⟨r74, hg74, hf⟩ := o_b1_go hf
  refine g_callVi (wn := (ww_X8_keepsFactor cI cM a_this a_this_all a_this_past a_this_refused a_this_box a_this_row a_this_text a_this_numbers a_this_before v_states v_empty v_cut v_rowMany v_taken v_found v_textLong v_at v_stopped v_box)) (rest := []) ⟨hx, hb, hml, hown, hts⟩ (c_X8_low l D cI cM a_this a_this_all a_this_past a_this_refused a_this_box a_this_row a_this_text a_this_numbers a_this_before H.size v_states v_empty v_cut v_rowMany v_taken v_found v_textLong v_at v_stopped v_box hg74) (cwV 1 hts gX8_keepsFactor_X8_low rfl rfl rfl (by decide +kernel) ⟨Nat.le_of_ble_eq_true rfl, Nat.le_of_ble_eq_true rfl⟩) hK hP hD hS hA [0, 1] [] [0, 1] rfl rfl rfl rfl rfl rfl (by decide) rfl rfl rfl hl.1 rfl (Nat.le_of_ble_eq_true rfl) dX8_keepsFactor_74 (fun H locs hP hD hS => ?_)
  refine lv_aload_n hx hb dX8_keepsFactor_77 rfl (lv_at hl 2 rfl) ?_
  refine lv_iload_n hx hb dX8_keepsFactor_78 rfl (lv_at hl 3 rfl) ?_
  obtain ⟨r79, hg79, hf⟩ := o_b1_go hf
  refine g_callVi (wn := (ww_X8_keepsFactor cI cM a_this a_this_all a_this_past a_this_refused a_this_box a_this_row a_this_text a_this_numbers a_this_before v_states v_empty v_cut v_rowMany v_taken v_found v_textLong v_at v_stopped v_box)) (rest := [.int r74]) ⟨hx, hb, hml, hown, hts⟩ (c_X8_high l D cI cM a_this a_this_all a_this_past a_this_refused a_this_box a_this_row a_this_text a_this_numbers a_this_before H.size v_states v_empty v_cut v_rowMany v_taken v_found v_textLong v_at v_stopped v_box hg79) (cwV 1 hts gX8_keepsFactor_X8_high rfl rfl rfl (by decide +kernel) ⟨Nat.le_of_ble_eq_true rfl, Nat.le_of_ble_eq_true rfl⟩) hK hP hD hS hA [0, 1] [] [0, 1] rfl rfl rfl rfl rfl rfl (by decide) rfl rfl rfl hl.1 rfl (Nat.le_of_ble_eq_true rfl) dX8_keepsFactor_79 (fun H locs hP hD hS => ?_)
  refine lv_aload_n hx hb dX8_keepsFactor_82 rfl (lv_at hl 2 rfl) ?_
  refine lv_iload_n hx hb dX8_keepsFactor_83 rfl (lv_at hl 4 rfl) ?_
  obtain ⟨r84, hg84, hf⟩ := o_b1_go hf
  refine g_callVi (wn := (ww_X8_keepsFactor cI cM a_this a_this_all a_this_past a_this_refused a_this_box a_this_row a_this_text a_this_numbers a_this_before v_states v_empty v_cut v_rowMany v_taken v_found v_textLong v_at v_stopped v_box)) (rest := [.int r79, .int r74]) ⟨hx, hb, hml, hown, hts⟩ (c_X8_low l D cI cM a_this a_this_all a_this_past a_this_refused a_this_box a_this_row a_this_text a_this_numbers a_this_before H.size v_states v_empty v_cut v_rowMany v_taken v_found v_textLong v_at v_stopped v_box hg84) (cwV 1 hts gX8_keepsFactor_X8_low rfl rfl rfl (by decide +kernel) ⟨Nat.le_of_ble_eq_true rfl, Nat.le_of_ble_eq_true rfl⟩) hK hP hD hS hA [0, 1] [] [0, 1] rfl rfl rfl rfl rfl rfl (by decide) rfl rfl rfl hl.1 rfl (Nat.le_of_ble_eq_true rfl) dX8_keepsFactor_84 (fun H locs hP hD hS => ?_)
  refine lv_iload hx hb dX8_keepsFactor_87 (lv_at hl 1 rfl) ?_
  refine lv_aload_n hx hb dX8_keepsFactor_89 rfl (lv_at hl 2 rfl) ?_
  refine lv_iload_n hx hb dX8_keepsFactor_90 rfl (lv_at hl 5 rfl) ?_
  obtain ⟨r91, hg91, hf⟩ := o_b1_go hf
  refine g_callVi (wn := (ww_X8_keepsFactor cI cM a_this a_this_all a_this_past a_this_refused a_this_box a_this_row a_this_text a_this_numbers a_this_before v_states v_empty v_cut v_rowMany v_taken v_found v_textLong v_at v_stopped v_box)) (rest := [.int z0, .int r84, .int r79, .int r74]) ⟨hx, hb, hml, hown, hts⟩ (c_X8_low l D cI cM a_this a_this_all a_this_past a_this_refused a_this_box a_this_row a_this_text a_this_numbers a_this_before H.size v_states v_empty v_cut v_rowMany v_taken v_found v_textLong v_at v_stopped v_box hg91) (cwV 1 hts gX8_keepsFactor_X8_low rfl rfl rfl (by decide +kernel) ⟨Nat.le_of_ble_eq_true rfl, Nat.le_of_ble_eq_true rfl⟩) hK hP hD hS hA [0, 1] [] [0, 1] rfl rfl rfl rfl rfl rfl (by decide) rfl rfl rfl hl.1 rfl (Nat.le_of_ble_eq_true rfl) dX8_keepsFactor_91 (fun H locs hP hD hS => ?_)
  obtain ⟨r94, hg94, hf⟩ := o_b1_go hf
  refine g_callSl (rest := []) ⟨hx, hb, hml, hown, hts⟩ (c_X8_lastFalling l hg94) (va_cwS 5 hts gX8_keepsFactor_X8_lastFalling rfl rfl rfl (by decide +kernel) ⟨Nat.le_of_ble_eq_true rfl, Nat.le_of_ble_eq_true rfl⟩) rfl hl.1 rfl (Nat.le_of_ble_eq_true rfl) dX8_keepsFactor_94 ?_
  refine lv_lstore (lv' := [(11, .long r94), (9, .long r67), (8, .int z0), (0, .ref a_this), (1, .int x1), (2, .int x2), (3, .int x3), (4, .long x4), (6, .long x6)]) hx hb dX8_keepsFactor_97 hl (by decide) rfl (fun ls hl => ?_)
  refine lv_lload hx hb dX8_keepsFactor_99 (lv_at hl 1 rfl) ?_
  refine lv_lload hx hb dX8_keepsFactor_101 (lv_at hl 0 rfl) ?_
  refine W.lcmp hx hb dX8_keepsFactor_103 ?_
  refine lv_if_gt (tgt := 120) hx hb dX8_keepsFactor_104 (by decide) (fun c104 => ?_) (fun c104 => ?_)
  · replace hf := o_t c104 hf
    exact w_X8_keepsFactor_B120 C0 hA hK v_empty v_cut v_box x1 x2 x3 x4 x6 r67 r94 H locs ls hf hP hD hS (lv_sub hl [3, 4, 5, 6, 7, 8, 1, 0] rfl)
  · replace hf := o_f c104 hf
    refine lv_lload hx hb dX8_keepsFactor_107 (lv_at hl 1 rfl) ?_
    refine lv_lload hx hb dX8_keepsFactor_109 (lv_at hl 7 rfl) ?_
    refine W.lcmp hx hb dX8_keepsFactor_111 ?_
    refine lv_if_ge (tgt := 120) hx hb dX8_keepsFactor_112 (by decide) (fun c112 => ?_) (fun c112 => ?_)
    · replace hf := o_t c112 hf
      exact w_X8_keepsFactor_B120 C0 hA hK v_empty v_cut v_box x1 x2 x3 x4 x6 r67 r94 H locs ls hf hP hD hS (lv_sub hl [3, 4, 5, 6, 7, 8, 1, 0] rfl)
    · replace hf := o_f c112 hf
      refine lv_lload hx hb dX8_keepsFactor_115 (lv_at hl 1 rfl) ?_
      refine lv_goto (tgt := 122) hx hb dX8_keepsFactor_117 (by decide) ?_
      exact w_X8_keepsFactor_B122 C0 hA hK v_empty v_cut v_box x1 x2 x3 x6 r67 r94 r67 H locs ls hf hP hD hS (lv_sub hl [3, 4, 5, 6, 8, 1, 0] rfl)
def f_X8_keepsFactor (N : Nat) (v_empty : Int32) (v_cut : Int32) (v_box : Nat → Int32) (x1 : Int32) (x2 : Int32) (x3 : Int32) : Option (Int32 × Int32 × (Nat → Int32)) :=
  if v_empty = 0 then
    o_b1 (f_X8_low v_box x2) (fun (r20 : Int32) =>
    if 0 ≤ r20 then
      f_X8_keepsFactor_B149 N v_empty v_cut v_box x1 x2 x3 3000000000 ((-3000000000))
    else
      o_b1 (f_X8_high v_box x2) (fun (r28 : Int32) =>
      if 0 ≤ r28 then
        f_X8_keepsFactor_B43 N v_empty v_cut v_box x1 x2 x3 3000000000 ((-3000000000)) ((-1))
      else
        o_b1 (f_X8_high v_box x2) (fun (r36 : Int32) =>
        f_X8_keepsFactor_B43 N v_empty v_cut v_box x1 x2 x3 3000000000 ((-3000000000)) r36)))
  else
    some (v_empty, v_cut, v_box)
set_option maxHeartbeats 4000000 in
set_option maxRecDepth 100000 in
theorem w_X8_keepsFactor_B0 {p : Program} {l : Launch} {e : Env} {s : State} {m : MethodId} {args : Array Value} {below : List Frame} {meth : Method} {c : Code} {D : va_G} {cI cM : ClassId} {A : Nat → Prop} {a_this a_this_all a_this_past a_this_refused a_this_box a_this_row a_this_text a_this_numbers a_this_before : Nat} {v_states : Int32} {v_rowMany : Int32} {v_taken : Int32} {v_found : Int32} {v_textLong : Int32} {v_at : Int32} {v_stopped : Int32} {N : Nat} {o_empty : Int32} {o_cut : Int32} {o_box : Nat → Int32} (C0 : g_cx cX8_keepsFactor none 13 RX8 wsX8_keepsFactor p s m args meth c) (hA : ∀ q, s.heap.size ≤ q → A q) (hK : va_K D vwCl (g_tys cI cM) s) : ∀ (v_empty : Int32) (v_cut : Int32) (v_box : Nat → Int32) (x1 : Int32) (x2 : Int32) (x3 : Int32) (H : Heap) (locs : List Loc) (ls : Array Slot), f_X8_keepsFactor N v_empty v_cut v_box x1 x2 x3 = some (o_empty, o_cut, o_box) → va_P D vwCl (ww_X8_keepsFactor cI cM a_this a_this_all a_this_past a_this_refused a_this_box a_this_row a_this_text a_this_numbers a_this_before v_states v_empty v_cut v_rowMany v_taken v_found v_textLong v_at v_stopped v_box) H → va_D A (ww_X8_keepsFactor cI cM a_this a_this_all a_this_past a_this_refused a_this_box a_this_row a_this_text a_this_numbers a_this_before v_states v_empty v_cut v_rowMany v_taken v_found v_textLong v_at v_stopped v_box) → va_S A s.heap H locs → lv_has ls 13 [(0, .ref a_this), (1, .int x1), (2, .int x2), (3, .int x3)] → W p l e rm_X8_keepsFactor s m args below meth c H locs 0 0 (MQ below (g_QV D (g_tys cI cM) A (ww_X8_keepsFactor cI cM a_this a_this_all a_this_past a_this_refused a_this_box a_this_row a_this_text a_this_numbers a_this_before v_states o_empty o_cut v_rowMany v_taken v_found v_textLong v_at v_stopped o_box)) args s 0 0 A) (F0 m 0 ls []) := by
  obtain ⟨hx, hb, hr, hml, hown, hts, hlocks⟩ := id C0
  intro v_empty v_cut v_box x1 x2 x3 H locs ls hf hP hD hS hl
  unfold f_X8_keepsFactor at hf
  refine lv_aload_n hx hb dX8_keepsFactor_0 rfl (lv_at hl 0 rfl) ?_
  refine va_get (D := D) (ci := 6) (v := .int v_empty) (C := RX8) (T := TX8) (N := 17) hx hb hts (fun _ h => (List.mem_cons_of_mem _ (List.mem_append_right _ h))) hown hK hP 0 rfl rfl 5 (by decide) (hts (.fieldLink RX8 124 "FloatBoxesModel" "empty" "Z") (List.mem_cons_of_mem _ (List.mem_append_left _ (List.mem_append_left _ (List.mem_of_getElem? (i := 0) rfl))))) (fun _ h9 => h9) rfl dX8_keepsFactor_1 ?_
  refine lv_if_eq (tgt := 8) hx hb dX8_keepsFactor_4 (by decide) (fun c4 => ?_) (fun c4 => ?_)
  · replace hf := o_t c4 hf
    refine lv_ldc2 (v := 3000000000) hx hb hown (hts (.constantLong RX8 166 (3000000000)) (List.mem_cons_of_mem _ (List.mem_append_left _ (List.mem_append_left _ (List.mem_of_getElem? (i := 1) rfl))))) dX8_keepsFactor_8 ?_
    refine lv_lstore (lv' := [(4, .long 3000000000), (0, .ref a_this), (1, .int x1), (2, .int x2), (3, .int x3)]) hx hb dX8_keepsFactor_11 hl (by decide) rfl (fun ls hl => ?_)
    refine lv_ldc2 (v := (-3000000000)) hx hb hown (hts (.constantLong RX8 168 (-3000000000)) (List.mem_cons_of_mem _ (List.mem_append_left _ (List.mem_append_left _ (List.mem_of_getElem? (i := 2) rfl))))) dX8_keepsFactor_13 ?_
    refine lv_lstore (lv' := [(6, .long ((-3000000000))), (4, .long 3000000000), (0, .ref a_this), (1, .int x1), (2, .int x2), (3, .int x3)]) hx hb dX8_keepsFactor_16 hl (by decide) rfl (fun ls hl => ?_)
    refine lv_aload_n hx hb dX8_keepsFactor_18 rfl (lv_at hl 2 rfl) ?_
    refine lv_iload_n hx hb dX8_keepsFactor_19 rfl (lv_at hl 4 rfl) ?_
    obtain ⟨r20, hg20, hf⟩ := o_b1_go hf
    refine g_callVi (wn := (ww_X8_keepsFactor cI cM a_this a_this_all a_this_past a_this_refused a_this_box a_this_row a_this_text a_this_numbers a_this_before v_states v_empty v_cut v_rowMany v_taken v_found v_textLong v_at v_stopped v_box)) (rest := []) ⟨hx, hb, hml, hown, hts⟩ (c_X8_low l D cI cM a_this a_this_all a_this_past a_this_refused a_this_box a_this_row a_this_text a_this_numbers a_this_before H.size v_states v_empty v_cut v_rowMany v_taken v_found v_textLong v_at v_stopped v_box hg20) (cwV 1 hts gX8_keepsFactor_X8_low rfl rfl rfl (by decide +kernel) ⟨Nat.le_of_ble_eq_true rfl, Nat.le_of_ble_eq_true rfl⟩) hK hP hD hS hA [0, 1] [] [0, 1] rfl rfl rfl rfl rfl rfl (by decide) rfl rfl rfl hl.1 rfl (Nat.le_of_ble_eq_true rfl) dX8_keepsFactor_20 (fun H locs hP hD hS => ?_)
    refine lv_if_ge (tgt := 149) hx hb dX8_keepsFactor_23 (by decide) (fun c23 => ?_) (fun c23 => ?_)
    · replace hf := o_t c23 hf
      exact w_X8_keepsFactor_B149 C0 hA hK v_empty v_cut v_box x1 x2 x3 3000000000 ((-3000000000)) H locs ls hf hP hD hS (lv_sub hl [2, 3, 4, 5, 1, 0] rfl)
    · replace hf := o_f c23 hf
      refine lv_aload_n hx hb dX8_keepsFactor_26 rfl (lv_at hl 2 rfl) ?_
      refine lv_iload_n hx hb dX8_keepsFactor_27 rfl (lv_at hl 4 rfl) ?_
      obtain ⟨r28, hg28, hf⟩ := o_b1_go hf
      refine g_callVi (wn := (ww_X8_keepsFactor cI cM a_this a_this_all a_this_past a_this_refused a_this_box a_this_row a_this_text a_this_numbers a_this_before v_states v_empty v_cut v_rowMany v_taken v_found v_textLong v_at v_stopped v_box)) (rest := []) ⟨hx, hb, hml, hown, hts⟩ (c_X8_high l D cI cM a_this a_this_all a_this_past a_this_refused a_this_box a_this_row a_this_text a_this_numbers a_this_before H.size v_states v_empty v_cut v_rowMany v_taken v_found v_textLong v_at v_stopped v_box hg28) (cwV 1 hts gX8_keepsFactor_X8_high rfl rfl rfl (by decide +kernel) ⟨Nat.le_of_ble_eq_true rfl, Nat.le_of_ble_eq_true rfl⟩) hK hP hD hS hA [0, 1] [] [0, 1] rfl rfl rfl rfl rfl rfl (by decide) rfl rfl rfl hl.1 rfl (Nat.le_of_ble_eq_true rfl) dX8_keepsFactor_28 (fun H locs hP hD hS => ?_)
      refine lv_if_ge (tgt := 42) hx hb dX8_keepsFactor_31 (by decide) (fun c31 => ?_) (fun c31 => ?_)
      · replace hf := o_t c31 hf
        refine lv_iconst (v := (-1)) hx hb dX8_keepsFactor_42 (by decide) ?_
        exact w_X8_keepsFactor_B43 C0 hA hK v_empty v_cut v_box x1 x2 x3 3000000000 ((-3000000000)) ((-1)) H locs ls hf hP hD hS (lv_sub hl [2, 3, 4, 5, 1, 0] rfl)
      · replace hf := o_f c31 hf
        refine lv_aload_n hx hb dX8_keepsFactor_34 rfl (lv_at hl 2 rfl) ?_
        refine lv_iload_n hx hb dX8_keepsFactor_35 rfl (lv_at hl 4 rfl) ?_
        obtain ⟨r36, hg36, hf⟩ := o_b1_go hf
        refine g_callVi (wn := (ww_X8_keepsFactor cI cM a_this a_this_all a_this_past a_this_refused a_this_box a_this_row a_this_text a_this_numbers a_this_before v_states v_empty v_cut v_rowMany v_taken v_found v_textLong v_at v_stopped v_box)) (rest := []) ⟨hx, hb, hml, hown, hts⟩ (c_X8_high l D cI cM a_this a_this_all a_this_past a_this_refused a_this_box a_this_row a_this_text a_this_numbers a_this_before H.size v_states v_empty v_cut v_rowMany v_taken v_found v_textLong v_at v_stopped v_box hg36) (cwV 1 hts gX8_keepsFactor_X8_high rfl rfl rfl (by decide +kernel) ⟨Nat.le_of_ble_eq_true rfl, Nat.le_of_ble_eq_true rfl⟩) hK hP hD hS hA [0, 1] [] [0, 1] rfl rfl rfl rfl rfl rfl (by decide) rfl rfl rfl hl.1 rfl (Nat.le_of_ble_eq_true rfl) dX8_keepsFactor_36 (fun H locs hP hD hS => ?_)
        refine lv_goto (tgt := 43) hx hb dX8_keepsFactor_39 (by decide) ?_
        exact w_X8_keepsFactor_B43 C0 hA hK v_empty v_cut v_box x1 x2 x3 3000000000 ((-3000000000)) r36 H locs ls hf hP hD hS (lv_sub hl [2, 3, 4, 5, 1, 0] rfl)
  · replace hf := o_f c4 hf
    obtain ⟨q0, y0⟩ := o_rp hf
    obtain ⟨q1, y1⟩ := o_rp y0
    have q2 := Option.some.inj y1
    subst q0 q1 q2
    exact g_vret hx hb hr hlocks hP hD hK hS dX8_keepsFactor_7
set_option maxHeartbeats 4000000 in
set_option maxRecDepth 100000 in
theorem c_X8_keepsFactor (l : Launch) (D : va_G) (cI cM : ClassId) (a_this a_this_all a_this_past a_this_refused a_this_box a_this_row a_this_text a_this_numbers a_this_before : Nat) (sz : Nat) (v_states : Int32) (v_empty : Int32) (v_cut : Int32) (v_rowMany : Int32) (v_taken : Int32) (v_found : Int32) (v_textLong : Int32) (v_at : Int32) (v_stopped : Int32) (v_box : Nat → Int32) {N : Nat} {x1 : Int32} {x2 : Int32} {x3 : Int32} {o_empty : Int32} {o_cut : Int32} {o_box : Nat → Int32} (hf : f_X8_keepsFactor N v_empty v_cut v_box x1 x2 x3 = some (o_empty, o_cut, o_box)) : Met l yX8_keepsFactor wsX8_keepsFactor rm_X8_keepsFactor (g_Pc D (g_tys cI cM) (ww_X8_keepsFactor cI cM a_this a_this_all a_this_past a_this_refused a_this_box a_this_row a_this_text a_this_numbers a_this_before v_states v_empty v_cut v_rowMany v_taken v_found v_textLong v_at v_stopped v_box) sz [.ref a_this, .int x1, .int x2, .int x3]) (g_QV D (g_tys cI cM) (va_A (ww_X8_keepsFactor cI cM a_this a_this_all a_this_past a_this_refused a_this_box a_this_row a_this_text a_this_numbers a_this_before v_states v_empty v_cut v_rowMany v_taken v_found v_textLong v_at v_stopped v_box) sz) (ww_X8_keepsFactor cI cM a_this a_this_all a_this_past a_this_refused a_this_box a_this_row a_this_text a_this_numbers a_this_before v_states o_empty o_cut v_rowMany v_taken v_found v_textLong v_at v_stopped o_box)) 0 0 (va_A (ww_X8_keepsFactor cI cM a_this a_this_all a_this_past a_this_refused a_this_box a_this_row a_this_text a_this_numbers a_this_before v_states v_empty v_cut v_rowMany v_taken v_found v_textLong v_at v_stopped v_box) sz) := by
  refine g_met (cc := cX8_keepsFactor) (maxL := 13) (ret := none) (Qc := fun D A => g_QV D (g_tys cI cM) A (ww_X8_keepsFactor cI cM a_this a_this_all a_this_past a_this_refused a_this_box a_this_row a_this_text a_this_numbers a_this_before v_states o_empty o_cut v_rowMany v_taken v_found v_textLong v_at v_stopped o_box)) (by decide) rfl ?_
  intro p e s m below meth c A C0 hA hK hP hD
  have hl := lv_entry ([.ref a_this, .int x1, .int x2, .int x3]) (n := 13) (Nat.le_of_ble_eq_true rfl)
  rw [lg_entry_eq]
  generalize (lg_sl ([.ref a_this, .int x1, .int x2, .int x3]) ++ List.replicate (13 - (lg_sl ([.ref a_this, .int x1, .int x2, .int x3])).length) Slot.unset).toArray = ls at hl ⊢
  have hl : lv_has ls 13 [(0, .ref a_this), (1, .int x1), (2, .int x2), (3, .int x3)] := hl
  exact w_X8_keepsFactor_B0 C0 hA hK v_empty v_cut v_box x1 x2 x3 s.heap [] ls hf hP hD va_S.rf (lv_sub hl [0, 1, 2, 3] rfl)
/-! FloatBoxesModel.cutsProduct(III)V -/
abbrev rm_X8_cutsProduct : Room := { frames := 8, cells := 0, slots := 0, locals := 197 }
abbrev ww_X8_cutsProduct (cI cM : ClassId) (a_this a_this_all a_this_past a_this_refused a_this_box a_this_row a_this_text a_this_numbers a_this_before : Nat) (v_states : Int32) (v_empty : Int32) (v_cut : Int32) (v_rowMany : Int32) (v_taken : Int32) (v_found : Int32) (v_textLong : Int32) (v_at : Int32) (v_stopped : Int32) (v_box : Nat → Int32) : va_W := [(a_this, .inr (6, [.ref a_this_all, .ref a_this_past, .int v_states, .ref a_this_refused, .ref a_this_box, .int v_empty, .int v_cut, .ref a_this_row, .int v_rowMany, .int v_taken, .int v_found, .ref a_this_text, .int v_textLong, .int v_at, .ref a_this_numbers, .int v_stopped, .ref a_this_before])), (a_this_box, .inl (cI, 12, .inl v_box))]
def f_X8_cutsProduct_B91 (N : Nat) (k11 : Int32 → Int32 → (Nat → Int32) → Int32 → Int32 → Int32 → Int32 → Int32 → Int32 → Option (Int32 × Int32 × (Nat → Int32))) (v_empty : Int32) (v_cut : Int32) (v_box : Nat → Int32) (x1 : Int32) (x2 : Int32) (x3 : Int32) (x4 : Int32) (x6 : Int32) (z0 : Int32) : Option (Int32 × Int32 × (Nat → Int32)) :=
  k11 v_empty v_cut v_box x1 x2 x3 x4 z0 (x6 + 1)
set_option maxHeartbeats 4000000 in
set_option maxRecDepth 100000 in
theorem w_X8_cutsProduct_B91 {p : Program} {l : Launch} {e : Env} {s : State} {m : MethodId} {args : Array Value} {below : List Frame} {meth : Method} {c : Code} {D : va_G} {cI cM : ClassId} {A : Nat → Prop} {a_this a_this_all a_this_past a_this_refused a_this_box a_this_row a_this_text a_this_numbers a_this_before : Nat} {v_states : Int32} {v_rowMany : Int32} {v_taken : Int32} {v_found : Int32} {v_textLong : Int32} {v_at : Int32} {v_stopped : Int32} {N : Nat} {o_empty : Int32} {o_cut : Int32} {o_box : Nat → Int32} (C0 : g_cx cX8_cutsProduct none 8 RX8 wsX8_cutsProduct p s m args meth c) (hA : ∀ q, s.heap.size ≤ q → A q) (hK : va_K D vwCl (g_tys cI cM) s) (k11 : Int32 → Int32 → (Nat → Int32) → Int32 → Int32 → Int32 → Int32 → Int32 → Int32 → Option (Int32 × Int32 × (Nat → Int32))) (hk11 : ∀ (v_empty : Int32) (v_cut : Int32) (v_box : Nat → Int32) (x1 : Int32) (x2 : Int32) (x3 : Int32) (x4 : Int32) (x5 : Int32) (x6 : Int32) (H : Heap) (locs : List Loc) (ls : Array Slot), k11 v_empty v_cut v_box x1 x2 x3 x4 x5 x6 = some (o_empty, o_cut, o_box) → va_P D vwCl (ww_X8_cutsProduct cI cM a_this a_this_all a_this_past a_this_refused a_this_box a_this_row a_this_text a_this_numbers a_this_before v_states v_empty v_cut v_rowMany v_taken v_found v_textLong v_at v_stopped v_box) H → va_D A (ww_X8_cutsProduct cI cM a_this a_this_all a_this_past a_this_refused a_this_box a_this_row a_this_text a_this_numbers a_this_before v_states v_empty v_cut v_rowMany v_taken v_found v_textLong v_at v_stopped v_box) → va_S A s.heap H locs → lv_has ls 8 [(0, .ref a_this), (1, .int x1), (2, .int x2), (3, .int x3), (4, .int x4), (5, .int x5), (6, .int x6)] → W p l e rm_X8_cutsProduct s m args below meth c H locs 0 0 (MQ below (g_QV D (g_tys cI cM) A (ww_X8_cutsProduct cI cM a_this a_this_all a_this_past a_this_refused a_this_box a_this_row a_this_text a_this_numbers a_this_before v_states o_empty o_cut v_rowMany v_taken v_found v_textLong v_at v_stopped o_box)) args s 0 0 A) (F0 m 11 ls [])) : ∀ (v_empty : Int32) (v_cut : Int32) (v_box : Nat → Int32) (x1 : Int32) (x2 : Int32) (x3 : Int32) (x4 : Int32) (x6 : Int32) (z0 : Int32) (H : Heap) (locs : List Loc) (ls : Array Slot), f_X8_cutsProduct_B91 N k11 v_empty v_cut v_box x1 x2 x3 x4 x6 z0 = some (o_empty, o_cut, o_box) → va_P D vwCl (ww_X8_cutsProduct cI cM a_this a_this_all a_this_past a_this_refused a_this_box a_this_row a_this_text a_this_numbers a_this_before v_states v_empty v_cut v_rowMany v_taken v_found v_textLong v_at v_stopped v_box) H → va_D A (ww_X8_cutsProduct cI cM a_this a_this_all a_this_past a_this_refused a_this_box a_this_row a_this_text a_this_numbers a_this_before v_states v_empty v_cut v_rowMany v_taken v_found v_textLong v_at v_stopped v_box) → va_S A s.heap H locs → lv_has ls 8 [(0, .ref a_this), (1, .int x1), (2, .int x2), (3, .int x3), (4, .int x4), (6, .int x6)] → W p l e rm_X8_cutsProduct s m args below meth c H locs 0 0 (MQ below (g_QV D (g_tys cI cM) A (ww_X8_cutsProduct cI cM a_this a_this_all a_this_past a_this_refused a_this_box a_this_row a_this_text a_this_numbers a_this_before v_states o_empty o_cut v_rowMany v_taken v_found v_textLong v_at v_stopped o_box)) args s 0 0 A) (F0 m 91 ls [.int z0]) := by
  obtain ⟨hx, hb, hr, hml, hown, hts, hlocks⟩ := id C0
  intro v_empty v_cut v_box x1 x2 x3 x4 x6 z0 H locs ls hf hP hD hS hl
  unfold f_X8_cutsProduct_B91 at hf
  refine lv_istore (lv' := [(5, .int z0), (0, .ref a_this), (1, .int x1), (2, .int x2), (3, .int x3), (4, .int x4), (6, .int x6)]) hx hb dX8_cutsProduct_91 hl (by decide) rfl (fun ls hl => ?_)
  refine lv_iinc (v := x6 + 1) (lv' := [(6, .int (x6 + 1)), (5, .int z0), (0, .ref a_this), (1, .int x1), (2, .int x2), (3, .int x3), (4, .int x4)]) hx hb dX8_cutsProduct_93 hl (k := 6) rfl rfl (by decide) rfl (fun ls hl => ?_)
  refine lv_goto (tgt := 11) hx hb dX8_cutsProduct_96 (by decide) ?_
  exact hk11 v_empty v_cut v_box x1 x2 x3 x4 z0 (x6 + 1) H locs ls hf hP hD hS (lv_sub hl [2, 3, 4, 5, 6, 1, 0] rfl)
def f_X8_cutsProduct_B75 (N : Nat) (k11 : Int32 → Int32 → (Nat → Int32) → Int32 → Int32 → Int32 → Int32 → Int32 → Int32 → Option (Int32 × Int32 × (Nat → Int32))) (v_empty : Int32) (v_cut : Int32) (v_box : Nat → Int32) (x1 : Int32) (x2 : Int32) (x3 : Int32) (x5 : Int32) (x6 : Int32) (x7 : Int32) (z0 : Int32) : Option (Int32 × Int32 × (Nat → Int32)) :=
  if x7 ≤ x5 then
    f_X8_cutsProduct_B91 N k11 v_empty v_cut v_box x1 x2 x3 z0 x6 x5
  else
    f_X8_cutsProduct_B91 N k11 v_empty v_cut v_box x1 x2 x3 z0 x6 x7
set_option maxHeartbeats 4000000 in
set_option maxRecDepth 100000 in
theorem w_X8_cutsProduct_B75 {p : Program} {l : Launch} {e : Env} {s : State} {m : MethodId} {args : Array Value} {below : List Frame} {meth : Method} {c : Code} {D : va_G} {cI cM : ClassId} {A : Nat → Prop} {a_this a_this_all a_this_past a_this_refused a_this_box a_this_row a_this_text a_this_numbers a_this_before : Nat} {v_states : Int32} {v_rowMany : Int32} {v_taken : Int32} {v_found : Int32} {v_textLong : Int32} {v_at : Int32} {v_stopped : Int32} {N : Nat} {o_empty : Int32} {o_cut : Int32} {o_box : Nat → Int32} (C0 : g_cx cX8_cutsProduct none 8 RX8 wsX8_cutsProduct p s m args meth c) (hA : ∀ q, s.heap.size ≤ q → A q) (hK : va_K D vwCl (g_tys cI cM) s) (k11 : Int32 → Int32 → (Nat → Int32) → Int32 → Int32 → Int32 → Int32 → Int32 → Int32 → Option (Int32 × Int32 × (Nat → Int32))) (hk11 : ∀ (v_empty : Int32) (v_cut : Int32) (v_box : Nat → Int32) (x1 : Int32) (x2 : Int32) (x3 : Int32) (x4 : Int32) (x5 : Int32) (x6 : Int32) (H : Heap) (locs : List Loc) (ls : Array Slot), k11 v_empty v_cut v_box x1 x2 x3 x4 x5 x6 = some (o_empty, o_cut, o_box) → va_P D vwCl (ww_X8_cutsProduct cI cM a_this a_this_all a_this_past a_this_refused a_this_box a_this_row a_this_text a_this_numbers a_this_before v_states v_empty v_cut v_rowMany v_taken v_found v_textLong v_at v_stopped v_box) H → va_D A (ww_X8_cutsProduct cI cM a_this a_this_all a_this_past a_this_refused a_this_box a_this_row a_this_text a_this_numbers a_this_before v_states v_empty v_cut v_rowMany v_taken v_found v_textLong v_at v_stopped v_box) → va_S A s.heap H locs → lv_has ls 8 [(0, .ref a_this), (1, .int x1), (2, .int x2), (3, .int x3), (4, .int x4), (5, .int x5), (6, .int x6)] → W p l e rm_X8_cutsProduct s m args below meth c H locs 0 0 (MQ below (g_QV D (g_tys cI cM) A (ww_X8_cutsProduct cI cM a_this a_this_all a_this_past a_this_refused a_this_box a_this_row a_this_text a_this_numbers a_this_before v_states o_empty o_cut v_rowMany v_taken v_found v_textLong v_at v_stopped o_box)) args s 0 0 A) (F0 m 11 ls [])) : ∀ (v_empty : Int32) (v_cut : Int32) (v_box : Nat → Int32) (x1 : Int32) (x2 : Int32) (x3 : Int32) (x5 : Int32) (x6 : Int32) (x7 : Int32) (z0 : Int32) (H : Heap) (locs : List Loc) (ls : Array Slot), f_X8_cutsProduct_B75 N k11 v_empty v_cut v_box x1 x2 x3 x5 x6 x7 z0 = some (o_empty, o_cut, o_box) → va_P D vwCl (ww_X8_cutsProduct cI cM a_this a_this_all a_this_past a_this_refused a_this_box a_this_row a_this_text a_this_numbers a_this_before v_states v_empty v_cut v_rowMany v_taken v_found v_textLong v_at v_stopped v_box) H → va_D A (ww_X8_cutsProduct cI cM a_this a_this_all a_this_past a_this_refused a_this_box a_this_row a_this_text a_this_numbers a_this_before v_states v_empty v_cut v_rowMany v_taken v_found v_textLong v_at v_stopped v_box) → va_S A s.heap H locs → lv_has ls 8 [(0, .ref a_this), (1, .int x1), (2, .int x2), (3, .int x3), (5, .int x5), (6, .int x6), (7, .int x7)] → W p l e rm_X8_cutsProduct s m args below meth c H locs 0 0 (MQ below (g_QV D (g_tys cI cM) A (ww_X8_cutsProduct cI cM a_this a_this_all a_this_past a_this_refused a_this_box a_this_row a_this_text a_this_numbers a_this_before v_states o_empty o_cut v_rowMany v_taken v_found v_textLong v_at v_stopped o_box)) args s 0 0 A) (F0 m 75 ls [.int z0]) := by
  obtain ⟨hx, hb, hr, hml, hown, hts, hlocks⟩ := id C0
  intro v_empty v_cut v_box x1 x2 x3 x5 x6 x7 z0 H locs ls hf hP hD hS hl
  unfold f_X8_cutsProduct_B75 at hf
  refine lv_istore (lv' := [(4, .int z0), (0, .ref a_this), (1, .int x1), (2, .int x2), (3, .int x3), (5, .int x5), (6, .int x6), (7, .int x7)]) hx hb dX8_cutsProduct_75 hl (by decide) rfl (fun ls hl => ?_)
  refine lv_iload hx hb dX8_cutsProduct_77 (lv_at hl 7 rfl) ?_
  refine lv_iload hx hb dX8_cutsProduct_79 (lv_at hl 5 rfl) ?_
  refine lv_icmp_le (tgt := 89) hx hb dX8_cutsProduct_81 (by decide) (fun c81 => ?_) (fun c81 => ?_)
  · replace hf := o_t c81 hf
    refine lv_iload hx hb dX8_cutsProduct_89 (lv_at hl 5 rfl) ?_
    exact w_X8_cutsProduct_B91 C0 hA hK k11 hk11 v_empty v_cut v_box x1 x2 x3 z0 x6 x5 H locs ls hf hP hD hS (lv_sub hl [1, 2, 3, 4, 0, 6] rfl)
  · replace hf := o_f c81 hf
    refine lv_iload hx hb dX8_cutsProduct_84 (lv_at hl 7 rfl) ?_
    refine lv_goto (tgt := 91) hx hb dX8_cutsProduct_86 (by decide) ?_
    exact w_X8_cutsProduct_B91 C0 hA hK k11 hk11 v_empty v_cut v_box x1 x2 x3 z0 x6 x7 H locs ls hf hP hD hS (lv_sub hl [1, 2, 3, 4, 0, 6] rfl)
def f_X8_cutsProduct_B56 (N : Nat) (k11 : Int32 → Int32 → (Nat → Int32) → Int32 → Int32 → Int32 → Int32 → Int32 → Int32 → Option (Int32 × Int32 × (Nat → Int32))) (v_empty : Int32) (v_cut : Int32) (v_box : Nat → Int32) (x1 : Int32) (x2 : Int32) (x3 : Int32) (x4 : Int32) (x5 : Int32) (x6 : Int32) (z0 : Int32) (z1 : Int32) : Option (Int32 × Int32 × (Nat → Int32)) :=
  o_b1 (f_X8_product z0 z1) (fun (r56 : Int32) =>
  if x4 ≤ r56 then
    f_X8_cutsProduct_B75 N k11 v_empty v_cut v_box x1 x2 x3 x5 x6 r56 x4
  else
    f_X8_cutsProduct_B75 N k11 v_empty v_cut v_box x1 x2 x3 x5 x6 r56 r56)
set_option maxHeartbeats 4000000 in
set_option maxRecDepth 100000 in
theorem w_X8_cutsProduct_B56 {p : Program} {l : Launch} {e : Env} {s : State} {m : MethodId} {args : Array Value} {below : List Frame} {meth : Method} {c : Code} {D : va_G} {cI cM : ClassId} {A : Nat → Prop} {a_this a_this_all a_this_past a_this_refused a_this_box a_this_row a_this_text a_this_numbers a_this_before : Nat} {v_states : Int32} {v_rowMany : Int32} {v_taken : Int32} {v_found : Int32} {v_textLong : Int32} {v_at : Int32} {v_stopped : Int32} {N : Nat} {o_empty : Int32} {o_cut : Int32} {o_box : Nat → Int32} (C0 : g_cx cX8_cutsProduct none 8 RX8 wsX8_cutsProduct p s m args meth c) (hA : ∀ q, s.heap.size ≤ q → A q) (hK : va_K D vwCl (g_tys cI cM) s) (k11 : Int32 → Int32 → (Nat → Int32) → Int32 → Int32 → Int32 → Int32 → Int32 → Int32 → Option (Int32 × Int32 × (Nat → Int32))) (hk11 : ∀ (v_empty : Int32) (v_cut : Int32) (v_box : Nat → Int32) (x1 : Int32) (x2 : Int32) (x3 : Int32) (x4 : Int32) (x5 : Int32) (x6 : Int32) (H : Heap) (locs : List Loc) (ls : Array Slot), k11 v_empty v_cut v_box x1 x2 x3 x4 x5 x6 = some (o_empty, o_cut, o_box) → va_P D vwCl (ww_X8_cutsProduct cI cM a_this a_this_all a_this_past a_this_refused a_this_box a_this_row a_this_text a_this_numbers a_this_before v_states v_empty v_cut v_rowMany v_taken v_found v_textLong v_at v_stopped v_box) H → va_D A (ww_X8_cutsProduct cI cM a_this a_this_all a_this_past a_this_refused a_this_box a_this_row a_this_text a_this_numbers a_this_before v_states v_empty v_cut v_rowMany v_taken v_found v_textLong v_at v_stopped v_box) → va_S A s.heap H locs → lv_has ls 8 [(0, .ref a_this), (1, .int x1), (2, .int x2), (3, .int x3), (4, .int x4), (5, .int x5), (6, .int x6)] → W p l e rm_X8_cutsProduct s m args below meth c H locs 0 0 (MQ below (g_QV D (g_tys cI cM) A (ww_X8_cutsProduct cI cM a_this a_this_all a_this_past a_this_refused a_this_box a_this_row a_this_text a_this_numbers a_this_before v_states o_empty o_cut v_rowMany v_taken v_found v_textLong v_at v_stopped o_box)) args s 0 0 A) (F0 m 11 ls [])) : ∀ (v_empty : Int32) (v_cut : Int32) (v_box : Nat → Int32) (x1 : Int32) (x2 : Int32) (x3 : Int32) (x4 : Int32) (x5 : Int32) (x6 : Int32) (z0 : Int32) (z1 : Int32) (H : Heap) (locs : List Loc) (ls : Array Slot), f_X8_cutsProduct_B56 N k11 v_empty v_cut v_box x1 x2 x3 x4 x5 x6 z0 z1 = some (o_empty, o_cut, o_box) → va_P D vwCl (ww_X8_cutsProduct cI cM a_this a_this_all a_this_past a_this_refused a_this_box a_this_row a_this_text a_this_numbers a_this_before v_states v_empty v_cut v_rowMany v_taken v_found v_textLong v_at v_stopped v_box) H → va_D A (ww_X8_cutsProduct cI cM a_this a_this_all a_this_past a_this_refused a_this_box a_this_row a_this_text a_this_numbers a_this_before v_states v_empty v_cut v_rowMany v_taken v_found v_textLong v_at v_stopped v_box) → va_S A s.heap H locs → lv_has ls 8 [(0, .ref a_this), (1, .int x1), (2, .int x2), (3, .int x3), (4, .int x4), (5, .int x5), (6, .int x6)] → W p l e rm_X8_cutsProduct s m args below meth c H locs 0 0 (MQ below (g_QV D (g_tys cI cM) A (ww_X8_cutsProduct cI cM a_this a_this_all a_this_past a_this_refused a_this_box a_this_row a_this_text a_this_numbers a_this_before v_states o_empty o_cut v_rowMany v_taken v_found v_textLong v_at v_stopped o_box)) args s 0 0 A) (F0 m 56 ls [.int z1, .int z0]) := by
  obtain ⟨hx, hb, hr, hml, hown, hts, hlocks⟩ := id C0
  intro v_empty v_cut v_box x1 x2 x3 x4 x5 x6 z0 z1 H locs ls hf hP hD hS hl
  unfold f_X8_cutsProduct_B56 at hf
  obtain ⟨r56, hg56, hf⟩ := o_b1_go hf
  refine g_callSi (rest := []) ⟨hx, hb, hml, hown, hts⟩ (c_X8_product l hg56) (va_cwS 2 hts gX8_cutsProduct_X8_product rfl rfl rfl (by decide +kernel) ⟨Nat.le_of_ble_eq_true rfl, Nat.le_of_ble_eq_true rfl⟩) rfl hl.1 rfl (Nat.le_of_ble_eq_true rfl) dX8_cutsProduct_56 ?_
  refine lv_istore (lv' := [(7, .int r56), (0, .ref a_this), (1, .int x1), (2, .int x2), (3, .int x3), (4, .int x4), (5, .int x5), (6, .int x6)]) hx hb dX8_cutsProduct_59 hl (by decide) rfl (fun ls hl => ?_)
  refine lv_iload hx hb dX8_cutsProduct_61 (lv_at hl 0 rfl) ?_
  refine lv_iload hx hb dX8_cutsProduct_63 (lv_at hl 5 rfl) ?_
  refine lv_icmp_ge (tgt := 73) hx hb dX8_cutsProduct_65 (by decide) (fun c65 => ?_) (fun c65 => ?_)
  · replace hf := o_t c65 hf
    refine lv_iload hx hb dX8_cutsProduct_73 (lv_at hl 5 rfl) ?_
    exact w_X8_cutsProduct_B75 C0 hA hK k11 hk11 v_empty v_cut v_box x1 x2 x3 x5 x6 r56 x4 H locs ls hf hP hD hS (lv_sub hl [1, 2, 3, 4, 6, 7, 0] rfl)
  · replace hf := o_f c65 hf
    refine lv_iload hx hb dX8_cutsProduct_68 (lv_at hl 0 rfl) ?_
    refine lv_goto (tgt := 75) hx hb dX8_cutsProduct_70 (by decide) ?_
    exact w_X8_cutsProduct_B75 C0 hA hK k11 hk11 v_empty v_cut v_box x1 x2 x3 x5 x6 r56 r56 H locs ls hf hP hD hS (lv_sub hl [1, 2, 3, 4, 6, 7, 0] rfl)
def f_X8_cutsProduct_B36 (N : Nat) (k11 : Int32 → Int32 → (Nat → Int32) → Int32 → Int32 → Int32 → Int32 → Int32 → Int32 → Option (Int32 × Int32 × (Nat → Int32))) (v_empty : Int32) (v_cut : Int32) (v_box : Nat → Int32) (x1 : Int32) (x2 : Int32) (x3 : Int32) (x4 : Int32) (x5 : Int32) (x6 : Int32) (z0 : Int32) : Option (Int32 × Int32 × (Nat → Int32)) :=
  if (x6 - x6 / 2 * 2) = 0 then
    o_b1 (f_X8_low v_box x2) (fun (r45 : Int32) =>
    f_X8_cutsProduct_B56 N k11 v_empty v_cut v_box x1 x2 x3 x4 x5 x6 z0 r45)
  else
    o_b1 (f_X8_high v_box x2) (fun (r53 : Int32) =>
    f_X8_cutsProduct_B56 N k11 v_empty v_cut v_box x1 x2 x3 x4 x5 x6 z0 r53)
set_option maxHeartbeats 4000000 in
set_option maxRecDepth 100000 in
theorem w_X8_cutsProduct_B36 {p : Program} {l : Launch} {e : Env} {s : State} {m : MethodId} {args : Array Value} {below : List Frame} {meth : Method} {c : Code} {D : va_G} {cI cM : ClassId} {A : Nat → Prop} {a_this a_this_all a_this_past a_this_refused a_this_box a_this_row a_this_text a_this_numbers a_this_before : Nat} {v_states : Int32} {v_rowMany : Int32} {v_taken : Int32} {v_found : Int32} {v_textLong : Int32} {v_at : Int32} {v_stopped : Int32} {N : Nat} {o_empty : Int32} {o_cut : Int32} {o_box : Nat → Int32} (C0 : g_cx cX8_cutsProduct none 8 RX8 wsX8_cutsProduct p s m args meth c) (hA : ∀ q, s.heap.size ≤ q → A q) (hK : va_K D vwCl (g_tys cI cM) s) (k11 : Int32 → Int32 → (Nat → Int32) → Int32 → Int32 → Int32 → Int32 → Int32 → Int32 → Option (Int32 × Int32 × (Nat → Int32))) (hk11 : ∀ (v_empty : Int32) (v_cut : Int32) (v_box : Nat → Int32) (x1 : Int32) (x2 : Int32) (x3 : Int32) (x4 : Int32) (x5 : Int32) (x6 : Int32) (H : Heap) (locs : List Loc) (ls : Array Slot), k11 v_empty v_cut v_box x1 x2 x3 x4 x5 x6 = some (o_empty, o_cut, o_box) → va_P D vwCl (ww_X8_cutsProduct cI cM a_this a_this_all a_this_past a_this_refused a_this_box a_this_row a_this_text a_this_numbers a_this_before v_states v_empty v_cut v_rowMany v_taken v_found v_textLong v_at v_stopped v_box) H → va_D A (ww_X8_cutsProduct cI cM a_this a_this_all a_this_past a_this_refused a_this_box a_this_row a_this_text a_this_numbers a_this_before v_states v_empty v_cut v_rowMany v_taken v_found v_textLong v_at v_stopped v_box) → va_S A s.heap H locs → lv_has ls 8 [(0, .ref a_this), (1, .int x1), (2, .int x2), (3, .int x3), (4, .int x4), (5, .int x5), (6, .int x6)] → W p l e rm_X8_cutsProduct s m args below meth c H locs 0 0 (MQ below (g_QV D (g_tys cI cM) A (ww_X8_cutsProduct cI cM a_this a_this_all a_this_past a_this_refused a_this_box a_this_row a_this_text a_this_numbers a_this_before v_states o_empty o_cut v_rowMany v_taken v_found v_textLong v_at v_stopped o_box)) args s 0 0 A) (F0 m 11 ls [])) : ∀ (v_empty : Int32) (v_cut : Int32) (v_box : Nat → Int32) (x1 : Int32) (x2 : Int32) (x3 : Int32) (x4 : Int32) (x5 : Int32) (x6 : Int32) (z0 : Int32) (H : Heap) (locs : List Loc) (ls : Array Slot), f_X8_cutsProduct_B36 N k11 v_empty v_cut v_box x1 x2 x3 x4 x5 x6 z0 = some (o_empty, o_cut, o_box) → va_P D vwCl (ww_X8_cutsProduct cI cM a_this a_this_all a_this_past a_this_refused a_this_box a_this_row a_this_text a_this_numbers a_this_before v_states v_empty v_cut v_rowMany v_taken v_found v_textLong v_at v_stopped v_box) H → va_D A (ww_X8_cutsProduct cI cM a_this a_this_all a_this_past a_this_refused a_this_box a_this_row a_this_text a_this_numbers a_this_before v_states v_empty v_cut v_rowMany v_taken v_found v_textLong v_at v_stopped v_box) → va_S A s.heap H locs → lv_has ls 8 [(0, .ref a_this), (1, .int x1), (2, .int x2), (3, .int x3), (4, .int x4), (5, .int x5), (6, .int x6)] → W p l e rm_X8_cutsProduct s m args below meth c H locs 0 0 (MQ below (g_QV D (g_tys cI cM) A (ww_X8_cutsProduct cI cM a_this a_this_all a_this_past a_this_refused a_this_box a_this_row a_this_text a_this_numbers a_this_before v_states o_empty o_cut v_rowMany v_taken v_found v_textLong v_at v_stopped o_box)) args s 0 0 A) (F0 m 36 ls [.int z0]) := by
  obtain ⟨hx, hb, hr, hml, hown, hts, hlocks⟩ := id C0
  intro v_empty v_cut v_box x1 x2 x3 x4 x5 x6 z0 H locs ls hf hP hD hS hl
  unfold f_X8_cutsProduct_B36 at hf
  refine lv_iload hx hb dX8_cutsProduct_36 (lv_at hl 6 rfl) ?_
  refine lv_iconst (v := 2) hx hb dX8_cutsProduct_38 (by decide) ?_
  refine lv_irem hx hb dX8_cutsProduct_39 (by decide) ?_
  refine lv_if_ne (tgt := 51) hx hb dX8_cutsProduct_40 (by decide) (fun c40 => ?_) (fun c40 => ?_)
  · replace hf := o_f c40 hf
    refine lv_aload_n hx hb dX8_cutsProduct_51 rfl (lv_at hl 0 rfl) ?_
    refine lv_iload_n hx hb dX8_cutsProduct_52 rfl (lv_at hl 2 rfl) ?_
    obtain ⟨r53, hg53, hf⟩ := o_b1_go hf
    refine g_callVi (wn := (ww_X8_cutsProduct cI cM a_this a_this_all a_this_past a_this_refused a_this_box a_this_row a_this_text a_this_numbers a_this_before v_states v_empty v_cut v_rowMany v_taken v_found v_textLong v_at v_stopped v_box)) (rest := [.int z0]) ⟨hx, hb, hml, hown, hts⟩ (c_X8_high l D cI cM a_this a_this_all a_this_past a_this_refused a_this_box a_this_row a_this_text a_this_numbers a_this_before H.size v_states v_empty v_cut v_rowMany v_taken v_found v_textLong v_at v_stopped v_box hg53) (cwV 1 hts gX8_cutsProduct_X8_high rfl rfl rfl (by decide +kernel) ⟨Nat.le_of_ble_eq_true rfl, Nat.le_of_ble_eq_true rfl⟩) hK hP hD hS hA [0, 1] [] [0, 1] rfl rfl rfl rfl rfl rfl (by decide) rfl rfl rfl hl.1 rfl (Nat.le_of_ble_eq_true rfl) dX8_cutsProduct_53 (fun H locs hP hD hS => ?_)
    exact w_X8_cutsProduct_B56 C0 hA hK k11 hk11 v_empty v_cut v_box x1 x2 x3 x4 x5 x6 z0 r53 H locs ls hf hP hD hS (lv_sub hl [0, 1, 2, 3, 4, 5, 6] rfl)
  · replace hf := o_t c40 hf
    refine lv_aload_n hx hb dX8_cutsProduct_43 rfl (lv_at hl 0 rfl) ?_
    refine lv_iload_n hx hb dX8_cutsProduct_44 rfl (lv_at hl 2 rfl) ?_
    obtain ⟨r45, hg45, hf⟩ := o_b1_go hf
    refine g_callVi (wn := (ww_X8_cutsProduct cI cM a_this a_this_all a_this_past a_this_refused a_this_box a_this_row a_this_text a_this_numbers a_this_before v_states v_empty v_cut v_rowMany v_taken v_found v_textLong v_at v_stopped v_box)) (rest := [.int z0]) ⟨hx, hb, hml, hown, hts⟩ (c_X8_low l D cI cM a_this a_this_all a_this_past a_this_refused a_this_box a_this_row a_this_text a_this_numbers a_this_before H.size v_states v_empty v_cut v_rowMany v_taken v_found v_textLong v_at v_stopped v_box hg45) (cwV 1 hts gX8_cutsProduct_X8_low rfl rfl rfl (by decide +kernel) ⟨Nat.le_of_ble_eq_true rfl, Nat.le_of_ble_eq_true rfl⟩) hK hP hD hS hA [0, 1] [] [0, 1] rfl rfl rfl rfl rfl rfl (by decide) rfl rfl rfl hl.1 rfl (Nat.le_of_ble_eq_true rfl) dX8_cutsProduct_45 (fun H locs hP hD hS => ?_)
    refine lv_goto (tgt := 56) hx hb dX8_cutsProduct_48 (by decide) ?_
    exact w_X8_cutsProduct_B56 C0 hA hK k11 hk11 v_empty v_cut v_box x1 x2 x3 x4 x5 x6 z0 r45 H locs ls hf hP hD hS (lv_sub hl [0, 1, 2, 3, 4, 5, 6] rfl)
def f_X8_cutsProduct_C11 (N : Nat) (k11 : Int32 → Int32 → (Nat → Int32) → Int32 → Int32 → Int32 → Int32 → Int32 → Int32 → Option (Int32 × Int32 × (Nat → Int32))) (v_empty : Int32) (v_cut : Int32) (v_box : Nat → Int32) (x1 : Int32) (x2 : Int32) (x3 : Int32) (x4 : Int32) (x5 : Int32) (x6 : Int32) : Option (Int32 × Int32 × (Nat → Int32)) :=
  if 4 ≤ x6 then
    o_b3 (f_X8_keeps v_empty v_cut v_box x3 x4.toInt64 x5.toInt64) (fun (v_empty_107 : Int32) (v_cut_107 : Int32) (v_box_107 : Nat → Int32) =>
    o_b3 (f_X8_keepsFactor N v_empty_107 v_cut_107 v_box_107 x1 x2 x3) (fun (v_empty_114 : Int32) (v_cut_114 : Int32) (v_box_114 : Nat → Int32) =>
    o_b3 (f_X8_keepsFactor N v_empty_114 v_cut_114 v_box_114 x2 x1 x3) (fun (v_empty_121 : Int32) (v_cut_121 : Int32) (v_box_121 : Nat → Int32) =>
    some (v_empty_121, v_cut_121, v_box_121))))
  else
    if 2 ≤ x6 then
      o_b1 (f_X8_high v_box x1) (fun (r33 : Int32) =>
      f_X8_cutsProduct_B36 N k11 v_empty v_cut v_box x1 x2 x3 x4 x5 x6 r33)
    else
      o_b1 (f_X8_low v_box x1) (fun (r25 : Int32) =>
      f_X8_cutsProduct_B36 N k11 v_empty v_cut v_box x1 x2 x3 x4 x5 x6 r25)
def f_X8_cutsProduct_L11 (N : Nat) : Nat → Int32 → Int32 → (Nat → Int32) → Int32 → Int32 → Int32 → Int32 → Int32 → Int32 → Option (Int32 × Int32 × (Nat → Int32))
  | 0 => fun _ _ _ _ _ _ _ _ _ => none
  | n + 1 => f_X8_cutsProduct_C11 N (f_X8_cutsProduct_L11 N n)
set_option maxHeartbeats 4000000 in
set_option maxRecDepth 100000 in
theorem w_X8_cutsProduct_C11 {p : Program} {l : Launch} {e : Env} {s : State} {m : MethodId} {args : Array Value} {below : List Frame} {meth : Method} {c : Code} {D : va_G} {cI cM : ClassId} {A : Nat → Prop} {a_this a_this_all a_this_past a_this_refused a_this_box a_this_row a_this_text a_this_numbers a_this_before : Nat} {v_states : Int32} {v_rowMany : Int32} {v_taken : Int32} {v_found : Int32} {v_textLong : Int32} {v_at : Int32} {v_stopped : Int32} {N : Nat} {o_empty : Int32} {o_cut : Int32} {o_box : Nat → Int32} (C0 : g_cx cX8_cutsProduct none 8 RX8 wsX8_cutsProduct p s m args meth c) (hA : ∀ q, s.heap.size ≤ q → A q) (hK : va_K D vwCl (g_tys cI cM) s) (k11 : Int32 → Int32 → (Nat → Int32) → Int32 → Int32 → Int32 → Int32 → Int32 → Int32 → Option (Int32 × Int32 × (Nat → Int32))) (hk11 : ∀ (v_empty : Int32) (v_cut : Int32) (v_box : Nat → Int32) (x1 : Int32) (x2 : Int32) (x3 : Int32) (x4 : Int32) (x5 : Int32) (x6 : Int32) (H : Heap) (locs : List Loc) (ls : Array Slot), k11 v_empty v_cut v_box x1 x2 x3 x4 x5 x6 = some (o_empty, o_cut, o_box) → va_P D vwCl (ww_X8_cutsProduct cI cM a_this a_this_all a_this_past a_this_refused a_this_box a_this_row a_this_text a_this_numbers a_this_before v_states v_empty v_cut v_rowMany v_taken v_found v_textLong v_at v_stopped v_box) H → va_D A (ww_X8_cutsProduct cI cM a_this a_this_all a_this_past a_this_refused a_this_box a_this_row a_this_text a_this_numbers a_this_before v_states v_empty v_cut v_rowMany v_taken v_found v_textLong v_at v_stopped v_box) → va_S A s.heap H locs → lv_has ls 8 [(0, .ref a_this), (1, .int x1), (2, .int x2), (3, .int x3), (4, .int x4), (5, .int x5), (6, .int x6)] → W p l e rm_X8_cutsProduct s m args below meth c H locs 0 0 (MQ below (g_QV D (g_tys cI cM) A (ww_X8_cutsProduct cI cM a_this a_this_all a_this_past a_this_refused a_this_box a_this_row a_this_text a_this_numbers a_this_before v_states o_empty o_cut v_rowMany v_taken v_found v_textLong v_at v_stopped o_box)) args s 0 0 A) (F0 m 11 ls [])) : ∀ (v_empty : Int32) (v_cut : Int32) (v_box : Nat → Int32) (x1 : Int32) (x2 : Int32) (x3 : Int32) (x4 : Int32) (x5 : Int32) (x6 : Int32) (H : Heap) (locs : List Loc) (ls : Array Slot), f_X8_cutsProduct_C11 N k11 v_empty v_cut v_box x1 x2 x3 x4 x5 x6 = some (o_empty, o_cut, o_box) → va_P D vwCl (ww_X8_cutsProduct cI cM a_this a_this_all a_this_past a_this_refused a_this_box a_this_row a_this_text a_this_numbers a_this_before v_states v_empty v_cut v_rowMany v_taken v_found v_textLong v_at v_stopped v_box) H → va_D A (ww_X8_cutsProduct cI cM a_this a_this_all a_this_past a_this_refused a_this_box a_this_row a_this_text a_this_numbers a_this_before v_states v_empty v_cut v_rowMany v_taken v_found v_textLong v_at v_stopped v_box) → va_S A s.heap H locs → lv_has ls 8 [(0, .ref a_this), (1, .int x1), (2, .int x2), (3, .int x3), (4, .int x4), (5, .int x5), (6, .int x6)] → W p l e rm_X8_cutsProduct s m args below meth c H locs 0 0 (MQ below (g_QV D (g_tys cI cM) A (ww_X8_cutsProduct cI cM a_this a_this_all a_this_past a_this_refused a_this_box a_this_row a_this_text a_this_numbers a_this_before v_states o_empty o_cut v_rowMany v_taken v_found v_textLong v_at v_stopped o_box)) args s 0 0 A) (F0 m 11 ls []) := by
  obtain ⟨hx, hb, hr, hml, hown, hts, hlocks⟩ := id C0
  intro v_empty v_cut v_box x1 x2 x3 x4 x5 x6 H locs ls hf hP hD hS hl
  unfold f_X8_cutsProduct_C11 at hf
  refine lv_iload hx hb dX8_cutsProduct_11 (lv_at hl 6 rfl) ?_
  refine lv_iconst (v := 4) hx hb dX8_cutsProduct_13 (by decide) ?_
  refine lv_icmp_ge (tgt := 99) hx hb dX8_cutsProduct_14 (by decide) (fun c14 => ?_) (fun c14 => ?_)
  · replace hf := o_t c14 hf
    refine lv_aload_n hx hb dX8_cutsProduct_99 rfl (lv_at hl 0 rfl) ?_
    refine lv_iload_n hx hb dX8_cutsProduct_100 rfl (lv_at hl 3 rfl) ?_
    refine lv_iload hx hb dX8_cutsProduct_101 (lv_at hl 4 rfl) ?_
    refine lv_i2l hx hb dX8_cutsProduct_103 rfl ?_
    refine lv_iload hx hb dX8_cutsProduct_104 (lv_at hl 5 rfl) ?_
    refine lv_i2l hx hb dX8_cutsProduct_106 rfl ?_
    obtain ⟨v_empty_107, v_cut_107, v_box_107, hg107, hf⟩ := o_b3_go hf
    refine g_callVv (wn := (ww_X8_cutsProduct cI cM a_this a_this_all a_this_past a_this_refused a_this_box a_this_row a_this_text a_this_numbers a_this_before v_states v_empty_107 v_cut_107 v_rowMany v_taken v_found v_textLong v_at v_stopped v_box_107)) (rest := []) ⟨hx, hb, hml, hown, hts⟩ (c_X8_keeps l D cI cM a_this a_this_all a_this_past a_this_refused a_this_box a_this_row a_this_text a_this_numbers a_this_before H.size v_states v_empty v_cut v_rowMany v_taken v_found v_textLong v_at v_stopped v_box hg107) (cwV 3 hts gX8_cutsProduct_X8_keeps rfl rfl rfl (by decide +kernel) ⟨Nat.le_of_ble_eq_true rfl, Nat.le_of_ble_eq_true rfl⟩) hK hP hD hS hA [0, 1] [] [0, 1] rfl rfl rfl rfl rfl rfl (by decide) rfl rfl rfl hl.1 rfl (Nat.le_of_ble_eq_true rfl) dX8_cutsProduct_107 (fun H locs hP hD hS => ?_)
    refine lv_aload_n hx hb dX8_cutsProduct_110 rfl (lv_at hl 0 rfl) ?_
    refine lv_iload_n hx hb dX8_cutsProduct_111 rfl (lv_at hl 1 rfl) ?_
    refine lv_iload_n hx hb dX8_cutsProduct_112 rfl (lv_at hl 2 rfl) ?_
    refine lv_iload_n hx hb dX8_cutsProduct_113 rfl (lv_at hl 3 rfl) ?_
    obtain ⟨v_empty_114, v_cut_114, v_box_114, hg114, hf⟩ := o_b3_go hf
    refine g_callVv (wn := (ww_X8_cutsProduct cI cM a_this a_this_all a_this_past a_this_refused a_this_box a_this_row a_this_text a_this_numbers a_this_before v_states v_empty_114 v_cut_114 v_rowMany v_taken v_found v_textLong v_at v_stopped v_box_114)) (rest := []) ⟨hx, hb, hml, hown, hts⟩ (c_X8_keepsFactor l D cI cM a_this a_this_all a_this_past a_this_refused a_this_box a_this_row a_this_text a_this_numbers a_this_before H.size v_states v_empty_107 v_cut_107 v_rowMany v_taken v_found v_textLong v_at v_stopped v_box_107 hg114) (cwV 3 hts gX8_cutsProduct_X8_keepsFactor rfl rfl rfl (by decide +kernel) ⟨Nat.le_of_ble_eq_true rfl, Nat.le_of_ble_eq_true rfl⟩) hK hP hD hS hA [0, 1] [] [0, 1] rfl rfl rfl rfl rfl rfl (by decide) rfl rfl rfl hl.1 rfl (Nat.le_of_ble_eq_true rfl) dX8_cutsProduct_114 (fun H locs hP hD hS => ?_)
    refine lv_aload_n hx hb dX8_cutsProduct_117 rfl (lv_at hl 0 rfl) ?_
    refine lv_iload_n hx hb dX8_cutsProduct_118 rfl (lv_at hl 2 rfl) ?_
    refine lv_iload_n hx hb dX8_cutsProduct_119 rfl (lv_at hl 1 rfl) ?_
    refine lv_iload_n hx hb dX8_cutsProduct_120 rfl (lv_at hl 3 rfl) ?_
    obtain ⟨v_empty_121, v_cut_121, v_box_121, hg121, hf⟩ := o_b3_go hf
    refine g_callVv (wn := (ww_X8_cutsProduct cI cM a_this a_this_all a_this_past a_this_refused a_this_box a_this_row a_this_text a_this_numbers a_this_before v_states v_empty_121 v_cut_121 v_rowMany v_taken v_found v_textLong v_at v_stopped v_box_121)) (rest := []) ⟨hx, hb, hml, hown, hts⟩ (c_X8_keepsFactor l D cI cM a_this a_this_all a_this_past a_this_refused a_this_box a_this_row a_this_text a_this_numbers a_this_before H.size v_states v_empty_114 v_cut_114 v_rowMany v_taken v_found v_textLong v_at v_stopped v_box_114 hg121) (cwV 3 hts gX8_cutsProduct_X8_keepsFactor rfl rfl rfl (by decide +kernel) ⟨Nat.le_of_ble_eq_true rfl, Nat.le_of_ble_eq_true rfl⟩) hK hP hD hS hA [0, 1] [] [0, 1] rfl rfl rfl rfl rfl rfl (by decide) rfl rfl rfl hl.1 rfl (Nat.le_of_ble_eq_true rfl) dX8_cutsProduct_121 (fun H locs hP hD hS => ?_)
    obtain ⟨q0, y0⟩ := o_rp hf
    obtain ⟨q1, y1⟩ := o_rp y0
    have q2 := Option.some.inj y1
    subst q0 q1 q2
    exact g_vret hx hb hr hlocks hP hD hK hS dX8_cutsProduct_124
  · replace hf := o_f c14 hf
    refine lv_iload hx hb dX8_cutsProduct_17 (lv_at hl 6 rfl) ?_
    refine lv_iconst (v := 2) hx hb dX8_cutsProduct_19 (by decide) ?_
    refine lv_icmp_ge (tgt := 31) hx hb dX8_cutsProduct_20 (by decide) (fun c20 => ?_) (fun c20 => ?_)
    · replace hf := o_t c20 hf
      refine lv_aload_n hx hb dX8_cutsProduct_31 rfl (lv_at hl 0 rfl) ?_
      refine lv_iload_n hx hb dX8_cutsProduct_32 rfl (lv_at hl 1 rfl) ?_
      obtain ⟨r33, hg33, hf⟩ := o_b1_go hf
      refine g_callVi (wn := (ww_X8_cutsProduct cI cM a_this a_this_all a_this_past a_this_refused a_this_box a_this_row a_this_text a_this_numbers a_this_before v_states v_empty v_cut v_rowMany v_taken v_found v_textLong v_at v_stopped v_box)) (rest := []) ⟨hx, hb, hml, hown, hts⟩ (c_X8_high l D cI cM a_this a_this_all a_this_past a_this_refused a_this_box a_this_row a_this_text a_this_numbers a_this_before H.size v_states v_empty v_cut v_rowMany v_taken v_found v_textLong v_at v_stopped v_box hg33) (cwV 1 hts gX8_cutsProduct_X8_high rfl rfl rfl (by decide +kernel) ⟨Nat.le_of_ble_eq_true rfl, Nat.le_of_ble_eq_true rfl⟩) hK hP hD hS hA [0, 1] [] [0, 1] rfl rfl rfl rfl rfl rfl (by decide) rfl rfl rfl hl.1 rfl (Nat.le_of_ble_eq_true rfl) dX8_cutsProduct_33 (fun H locs hP hD hS => ?_)
      exact w_X8_cutsProduct_B36 C0 hA hK k11 hk11 v_empty v_cut v_box x1 x2 x3 x4 x5 x6 r33 H locs ls hf hP hD hS (lv_sub hl [0, 1, 2, 3, 4, 5, 6] rfl)
    · replace hf := o_f c20 hf
      refine lv_aload_n hx hb dX8_cutsProduct_23 rfl (lv_at hl 0 rfl) ?_
      refine lv_iload_n hx hb dX8_cutsProduct_24 rfl (lv_at hl 1 rfl) ?_
      obtain ⟨r25, hg25, hf⟩ := o_b1_go hf
      refine g_callVi (wn := (ww_X8_cutsProduct cI cM a_this a_this_all a_this_past a_this_refused a_this_box a_this_row a_this_text a_this_numbers a_this_before v_states v_empty v_cut v_rowMany v_taken v_found v_textLong v_at v_stopped v_box)) (rest := []) ⟨hx, hb, hml, hown, hts⟩ (c_X8_low l D cI cM a_this a_this_all a_this_past a_this_refused a_this_box a_this_row a_this_text a_this_numbers a_this_before H.size v_states v_empty v_cut v_rowMany v_taken v_found v_textLong v_at v_stopped v_box hg25) (cwV 1 hts gX8_cutsProduct_X8_low rfl rfl rfl (by decide +kernel) ⟨Nat.le_of_ble_eq_true rfl, Nat.le_of_ble_eq_true rfl⟩) hK hP hD hS hA [0, 1] [] [0, 1] rfl rfl rfl rfl rfl rfl (by decide) rfl rfl rfl hl.1 rfl (Nat.le_of_ble_eq_true rfl) dX8_cutsProduct_25 (fun H locs hP hD hS => ?_)
      refine lv_goto (tgt := 36) hx hb dX8_cutsProduct_28 (by decide) ?_
      exact w_X8_cutsProduct_B36 C0 hA hK k11 hk11 v_empty v_cut v_box x1 x2 x3 x4 x5 x6 r25 H locs ls hf hP hD hS (lv_sub hl [0, 1, 2, 3, 4, 5, 6] rfl)
set_option maxHeartbeats 4000000 in
set_option maxRecDepth 100000 in
theorem w_X8_cutsProduct_L11 {p : Program} {l : Launch} {e : Env} {s : State} {m : MethodId} {args : Array Value} {below : List Frame} {meth : Method} {c : Code} {D : va_G} {cI cM : ClassId} {A : Nat → Prop} {a_this a_this_all a_this_past a_this_refused a_this_box a_this_row a_this_text a_this_numbers a_this_before : Nat} {v_states : Int32} {v_rowMany : Int32} {v_taken : Int32} {v_found : Int32} {v_textLong : Int32} {v_at : Int32} {v_stopped : Int32} {N : Nat} {o_empty : Int32} {o_cut : Int32} {o_box : Nat → Int32} (C0 : g_cx cX8_cutsProduct none 8 RX8 wsX8_cutsProduct p s m args meth c) (hA : ∀ q, s.heap.size ≤ q → A q) (hK : va_K D vwCl (g_tys cI cM) s) : ∀ n : Nat, ∀ (v_empty : Int32) (v_cut : Int32) (v_box : Nat → Int32) (x1 : Int32) (x2 : Int32) (x3 : Int32) (x4 : Int32) (x5 : Int32) (x6 : Int32) (H : Heap) (locs : List Loc) (ls : Array Slot), f_X8_cutsProduct_L11 N n v_empty v_cut v_box x1 x2 x3 x4 x5 x6 = some (o_empty, o_cut, o_box) → va_P D vwCl (ww_X8_cutsProduct cI cM a_this a_this_all a_this_past a_this_refused a_this_box a_this_row a_this_text a_this_numbers a_this_before v_states v_empty v_cut v_rowMany v_taken v_found v_textLong v_at v_stopped v_box) H → va_D A (ww_X8_cutsProduct cI cM a_this a_this_all a_this_past a_this_refused a_this_box a_this_row a_this_text a_this_numbers a_this_before v_states v_empty v_cut v_rowMany v_taken v_found v_textLong v_at v_stopped v_box) → va_S A s.heap H locs → lv_has ls 8 [(0, .ref a_this), (1, .int x1), (2, .int x2), (3, .int x3), (4, .int x4), (5, .int x5), (6, .int x6)] → W p l e rm_X8_cutsProduct s m args below meth c H locs 0 0 (MQ below (g_QV D (g_tys cI cM) A (ww_X8_cutsProduct cI cM a_this a_this_all a_this_past a_this_refused a_this_box a_this_row a_this_text a_this_numbers a_this_before v_states o_empty o_cut v_rowMany v_taken v_found v_textLong v_at v_stopped o_box)) args s 0 0 A) (F0 m 11 ls []) := by
  intro n
  induction n with
  | zero =>
    intro v_empty v_cut v_box x1 x2 x3 x4 x5 x6 H locs ls hf
    exact absurd hf (fun h => nomatch h)
  | succ n ih =>
    intro v_empty v_cut v_box x1 x2 x3 x4 x5 x6 H locs ls hf
    exact w_X8_cutsProduct_C11 C0 hA hK _ ih v_empty v_cut v_box x1 x2 x3 x4 x5 x6 H locs ls hf
def f_X8_cutsProduct (N : Nat) (v_empty : Int32) (v_cut : Int32) (v_box : Nat → Int32) (x1 : Int32) (x2 : Int32) (x3 : Int32) : Option (Int32 × Int32 × (Nat → Int32)) :=
  f_X8_cutsProduct_L11 N N v_empty v_cut v_box x1 x2 x3 2139095040 ((-2139095041)) 0
set_option maxHeartbeats 4000000 in
set_option maxRecDepth 100000 in
theorem w_X8_cutsProduct_B0 {p : Program} {l : Launch} {e : Env} {s : State} {m : MethodId} {args : Array Value} {below : List Frame} {meth : Method} {c : Code} {D : va_G} {cI cM : ClassId} {A : Nat → Prop} {a_this a_this_all a_this_past a_this_refused a_this_box a_this_row a_this_text a_this_numbers a_this_before : Nat} {v_states : Int32} {v_rowMany : Int32} {v_taken : Int32} {v_found : Int32} {v_textLong : Int32} {v_at : Int32} {v_stopped : Int32} {N : Nat} {o_empty : Int32} {o_cut : Int32} {o_box : Nat → Int32} (C0 : g_cx cX8_cutsProduct none 8 RX8 wsX8_cutsProduct p s m args meth c) (hA : ∀ q, s.heap.size ≤ q → A q) (hK : va_K D vwCl (g_tys cI cM) s) : ∀ (v_empty : Int32) (v_cut : Int32) (v_box : Nat → Int32) (x1 : Int32) (x2 : Int32) (x3 : Int32) (H : Heap) (locs : List Loc) (ls : Array Slot), f_X8_cutsProduct N v_empty v_cut v_box x1 x2 x3 = some (o_empty, o_cut, o_box) → va_P D vwCl (ww_X8_cutsProduct cI cM a_this a_this_all a_this_past a_this_refused a_this_box a_this_row a_this_text a_this_numbers a_this_before v_states v_empty v_cut v_rowMany v_taken v_found v_textLong v_at v_stopped v_box) H → va_D A (ww_X8_cutsProduct cI cM a_this a_this_all a_this_past a_this_refused a_this_box a_this_row a_this_text a_this_numbers a_this_before v_states v_empty v_cut v_rowMany v_taken v_found v_textLong v_at v_stopped v_box) → va_S A s.heap H locs → lv_has ls 8 [(0, .ref a_this), (1, .int x1), (2, .int x2), (3, .int x3)] → W p l e rm_X8_cutsProduct s m args below meth c H locs 0 0 (MQ below (g_QV D (g_tys cI cM) A (ww_X8_cutsProduct cI cM a_this a_this_all a_this_past a_this_refused a_this_box a_this_row a_this_text a_this_numbers a_this_before v_states o_empty o_cut v_rowMany v_taken v_found v_textLong v_at v_stopped o_box)) args s 0 0 A) (F0 m 0 ls []) := by
  obtain ⟨hx, hb, hr, hml, hown, hts, hlocks⟩ := id C0
  intro v_empty v_cut v_box x1 x2 x3 H locs ls hf hP hD hS hl
  unfold f_X8_cutsProduct at hf
  refine lv_ldc (v := 2139095040) hx hb hown (hts (.constant RX8 177 (2139095040)) (List.mem_cons_of_mem _ (List.mem_append_left _ (List.mem_append_left _ (List.mem_of_getElem? (i := 0) rfl))))) dX8_cutsProduct_0 ?_
  refine lv_istore (lv' := [(4, .int 2139095040), (0, .ref a_this), (1, .int x1), (2, .int x2), (3, .int x3)]) hx hb dX8_cutsProduct_2 hl (by decide) rfl (fun ls hl => ?_)
  refine lv_ldc (v := (-2139095041)) hx hb hown (hts (.constant RX8 178 (-2139095041)) (List.mem_cons_of_mem _ (List.mem_append_left _ (List.mem_append_left _ (List.mem_of_getElem? (i := 1) rfl))))) dX8_cutsProduct_4 ?_
  refine lv_istore (lv' := [(5, .int ((-2139095041))), (4, .int 2139095040), (0, .ref a_this), (1, .int x1), (2, .int x2), (3, .int x3)]) hx hb dX8_cutsProduct_6 hl (by decide) rfl (fun ls hl => ?_)
  refine lv_iconst (v := 0) hx hb dX8_cutsProduct_8 (by decide) ?_
  refine lv_istore (lv' := [(6, .int 0), (5, .int ((-2139095041))), (4, .int 2139095040), (0, .ref a_this), (1, .int x1), (2, .int x2), (3, .int x3)]) hx hb dX8_cutsProduct_9 hl (by decide) rfl (fun ls hl => ?_)
  exact w_X8_cutsProduct_L11 C0 hA hK N v_empty v_cut v_box x1 x2 x3 2139095040 ((-2139095041)) 0 H locs ls hf hP hD hS (lv_sub hl [3, 4, 5, 6, 2, 1, 0] rfl)
set_option maxHeartbeats 4000000 in
set_option maxRecDepth 100000 in
theorem c_X8_cutsProduct (l : Launch) (D : va_G) (cI cM : ClassId) (a_this a_this_all a_this_past a_this_refused a_this_box a_this_row a_this_text a_this_numbers a_this_before : Nat) (sz : Nat) (v_states : Int32) (v_empty : Int32) (v_cut : Int32) (v_rowMany : Int32) (v_taken : Int32) (v_found : Int32) (v_textLong : Int32) (v_at : Int32) (v_stopped : Int32) (v_box : Nat → Int32) {N : Nat} {x1 : Int32} {x2 : Int32} {x3 : Int32} {o_empty : Int32} {o_cut : Int32} {o_box : Nat → Int32} (hf : f_X8_cutsProduct N v_empty v_cut v_box x1 x2 x3 = some (o_empty, o_cut, o_box)) : Met l yX8_cutsProduct wsX8_cutsProduct rm_X8_cutsProduct (g_Pc D (g_tys cI cM) (ww_X8_cutsProduct cI cM a_this a_this_all a_this_past a_this_refused a_this_box a_this_row a_this_text a_this_numbers a_this_before v_states v_empty v_cut v_rowMany v_taken v_found v_textLong v_at v_stopped v_box) sz [.ref a_this, .int x1, .int x2, .int x3]) (g_QV D (g_tys cI cM) (va_A (ww_X8_cutsProduct cI cM a_this a_this_all a_this_past a_this_refused a_this_box a_this_row a_this_text a_this_numbers a_this_before v_states v_empty v_cut v_rowMany v_taken v_found v_textLong v_at v_stopped v_box) sz) (ww_X8_cutsProduct cI cM a_this a_this_all a_this_past a_this_refused a_this_box a_this_row a_this_text a_this_numbers a_this_before v_states o_empty o_cut v_rowMany v_taken v_found v_textLong v_at v_stopped o_box)) 0 0 (va_A (ww_X8_cutsProduct cI cM a_this a_this_all a_this_past a_this_refused a_this_box a_this_row a_this_text a_this_numbers a_this_before v_states v_empty v_cut v_rowMany v_taken v_found v_textLong v_at v_stopped v_box) sz) := by
  refine g_met (cc := cX8_cutsProduct) (maxL := 8) (ret := none) (Qc := fun D A => g_QV D (g_tys cI cM) A (ww_X8_cutsProduct cI cM a_this a_this_all a_this_past a_this_refused a_this_box a_this_row a_this_text a_this_numbers a_this_before v_states o_empty o_cut v_rowMany v_taken v_found v_textLong v_at v_stopped o_box)) (by decide) rfl ?_
  intro p e s m below meth c A C0 hA hK hP hD
  have hl := lv_entry ([.ref a_this, .int x1, .int x2, .int x3]) (n := 8) (Nat.le_of_ble_eq_true rfl)
  rw [lg_entry_eq]
  generalize (lg_sl ([.ref a_this, .int x1, .int x2, .int x3]) ++ List.replicate (8 - (lg_sl ([.ref a_this, .int x1, .int x2, .int x3])).length) Slot.unset).toArray = ls at hl ⊢
  have hl : lv_has ls 8 [(0, .ref a_this), (1, .int x1), (2, .int x2), (3, .int x3)] := hl
  exact w_X8_cutsProduct_B0 C0 hA hK v_empty v_cut v_box x1 x2 x3 s.heap [] ls hf hP hD va_S.rf (lv_sub hl [0, 1, 2, 3] rfl)
