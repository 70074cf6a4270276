/-! FloatBoxes$Floats.product(II)I -/
abbrev rm_X1_product : Room := { frames := 3, cells := 0, slots := 0, locals := 74 }
def f_X1_product_B49  (x2 : Int32) (x3 : Int32) (x4 : Int64) (z0 : Int32) : Option (Int32) :=
  o_b1 (f_X1_exponent x2) (fun (r52 : Int32) =>
  o_b1 (f_X1_exponent x3) (fun (r56 : Int32) =>
  o_b1 (f_X1_rounded z0 x4 ((r52 + r56) - 150)) (fun (r64 : Int32) =>
  some r64)))
set_option maxHeartbeats 4000000 in
set_option maxRecDepth 100000 in
theorem w_X1_product_B49 {p : Program} {l : Launch} {e : Env} {s : State} {m : MethodId} {args : Array Value} {below : List Frame} {meth : Method} {c : Code} {r : Int32} (C0 : g_cx cX1_product (some .int) 6 RX1 wsX1_product p s m args meth c) : ∀ (x2 : Int32) (x3 : Int32) (x4 : Int64) (z0 : Int32) (ls : Array Slot), f_X1_product_B49 x2 x3 x4 z0 = some r → lv_has ls 6 [(2, .int x2), (3, .int x3), (4, .long x4)] → W p l e rm_X1_product s m args below meth c s.heap [] 0 0 (MQ below (g_SI r) args s 0 0 (fun _ => False)) (F0 m 49 ls [.int z0]) := by
  obtain ⟨hx, hb, hr, hml, hown, hts, hlocks⟩ := id C0
  intro x2 x3 x4 z0 ls hf hl
  unfold f_X1_product_B49 at hf
  refine lv_lload hx hb dX1_product_49 (lv_at hl 2 rfl) ?_
  refine lv_iload_n hx hb dX1_product_51 rfl (lv_at hl 0 rfl) ?_
  obtain ⟨r52, hg52, hf⟩ := o_b1_go hf
  refine g_callSi (rest := [.long x4, .int z0]) ⟨hx, hb, hml, hown, hts⟩ (c_X1_exponent l hg52) (va_cwS 1 hts gX1_product_X1_exponent rfl rfl rfl (by decide +kernel) ⟨Nat.le_of_ble_eq_true rfl, Nat.le_of_ble_eq_true rfl⟩) rfl hl.1 rfl (Nat.le_of_ble_eq_true rfl) dX1_product_52 ?_
  refine lv_iload_n hx hb dX1_product_55 rfl (lv_at hl 1 rfl) ?_
  obtain ⟨r56, hg56, hf⟩ := o_b1_go hf
  refine g_callSi (rest := [.int r52, .long x4, .int z0]) ⟨hx, hb, hml, hown, hts⟩ (c_X1_exponent l hg56) (va_cwS 1 hts gX1_product_X1_exponent rfl rfl rfl (by decide +kernel) ⟨Nat.le_of_ble_eq_true rfl, Nat.le_of_ble_eq_true rfl⟩) rfl hl.1 rfl (Nat.le_of_ble_eq_true rfl) dX1_product_56 ?_
  refine lv_iadd hx hb dX1_product_59 ?_
  refine lv_sipush (v := 150) hx hb dX1_product_60 (by decide) ?_
  refine lv_isub hx hb dX1_product_63 ?_
  obtain ⟨r64, hg64, hf⟩ := o_b1_go hf
  refine g_callSi (rest := []) ⟨hx, hb, hml, hown, hts⟩ (c_X1_rounded l hg64) (va_cwS 3 hts gX1_product_X1_rounded rfl rfl rfl (by decide +kernel) ⟨Nat.le_of_ble_eq_true rfl, Nat.le_of_ble_eq_true rfl⟩) rfl hl.1 rfl (Nat.le_of_ble_eq_true rfl) dX1_product_64 ?_
  have q0 := Option.some.inj hf
  subst q0
  exact g_siret hx hb hr hlocks dX1_product_67
def f_X1_product_B41  (x2 : Int32) (x3 : Int32) (x4 : Int64) (z0 : Int32) (z1 : Int32) : Option (Int32) :=
  if z0 = z1 then
    f_X1_product_B49 x2 x3 x4 0
  else
    f_X1_product_B49 x2 x3 x4 1
set_option maxHeartbeats 4000000 in
set_option maxRecDepth 100000 in
theorem w_X1_product_B41 {p : Program} {l : Launch} {e : Env} {s : State} {m : MethodId} {args : Array Value} {below : List Frame} {meth : Method} {c : Code} {r : Int32} (C0 : g_cx cX1_product (some .int) 6 RX1 wsX1_product p s m args meth c) : ∀ (x2 : Int32) (x3 : Int32) (x4 : Int64) (z0 : Int32) (z1 : Int32) (ls : Array Slot), f_X1_product_B41 x2 x3 x4 z0 z1 = some r → lv_has ls 6 [(2, .int x2), (3, .int x3), (4, .long x4)] → W p l e rm_X1_product s m args below meth c s.heap [] 0 0 (MQ below (g_SI r) args s 0 0 (fun _ => False)) (F0 m 41 ls [.int z1, .int z0]) := by
  obtain ⟨hx, hb, hr, hml, hown, hts, hlocks⟩ := id C0
  intro x2 x3 x4 z0 z1 ls hf hl
  unfold f_X1_product_B41 at hf
  refine lv_icmp_eq (tgt := 48) hx hb dX1_product_41 (by decide) (fun c41 => ?_) (fun c41 => ?_)
  · replace hf := o_t c41 hf
    refine lv_iconst (v := 0) hx hb dX1_product_48 (by decide) ?_
    exact w_X1_product_B49 C0 x2 x3 x4 0 ls hf (lv_sub hl [0, 1, 2] rfl)
  · replace hf := o_f c41 hf
    refine lv_iconst (v := 1) hx hb dX1_product_44 (by decide) ?_
    refine lv_goto (tgt := 49) hx hb dX1_product_45 (by decide) ?_
    exact w_X1_product_B49 C0 x2 x3 x4 1 ls hf (lv_sub hl [0, 1, 2] rfl)
def f_X1_product_B32  (x1 : Int32) (x2 : Int32) (x3 : Int32) (x4 : Int64) (z0 : Int32) : Option (Int32) :=
  if 0 ≤ x1 then
    f_X1_product_B41 x2 x3 x4 z0 0
  else
    f_X1_product_B41 x2 x3 x4 z0 1
set_option maxHeartbeats 4000000 in
set_option maxRecDepth 100000 in
theorem w_X1_product_B32 {p : Program} {l : Launch} {e : Env} {s : State} {m : MethodId} {args : Array Value} {below : List Frame} {meth : Method} {c : Code} {r : Int32} (C0 : g_cx cX1_product (some .int) 6 RX1 wsX1_product p s m args meth c) : ∀ (x1 : Int32) (x2 : Int32) (x3 : Int32) (x4 : Int64) (z0 : Int32) (ls : Array Slot), f_X1_product_B32 x1 x2 x3 x4 z0 = some r → lv_has ls 6 [(1, .int x1), (2, .int x2), (3, .int x3), (4, .long x4)] → W p l e rm_X1_product s m args below meth c s.heap [] 0 0 (MQ below (g_SI r) args s 0 0 (fun _ => False)) (F0 m 32 ls [.int z0]) := by
  obtain ⟨hx, hb, hr, hml, hown, hts, hlocks⟩ := id C0
  intro x1 x2 x3 x4 z0 ls hf hl
  unfold f_X1_product_B32 at hf
  refine lv_iload_n hx hb dX1_product_32 rfl (lv_at hl 0 rfl) ?_
  refine lv_if_ge (tgt := 40) hx hb dX1_product_33 (by decide) (fun c33 => ?_) (fun c33 => ?_)
  · replace hf := o_t c33 hf
    refine lv_iconst (v := 0) hx hb dX1_product_40 (by decide) ?_
    exact w_X1_product_B41 C0 x2 x3 x4 z0 0 ls hf (lv_sub hl [1, 2, 3] rfl)
  · replace hf := o_f c33 hf
    refine lv_iconst (v := 1) hx hb dX1_product_36 (by decide) ?_
    refine lv_goto (tgt := 41) hx hb dX1_product_37 (by decide) ?_
    exact w_X1_product_B41 C0 x2 x3 x4 z0 1 ls hf (lv_sub hl [1, 2, 3] rfl)
def f_X1_product  (x0 : Int32) (x1 : Int32) : Option (Int32) :=
  o_b1 (f_X4_magnitude x0) (fun (r1 : Int32) =>
  o_b1 (f_X4_magnitude x1) (fun (r6 : Int32) =>
  o_b1 (f_X1_significand r1) (fun (r11 : Int32) =>
  o_b1 (f_X1_significand r6) (fun (r16 : Int32) =>
  o_nm (r11.toInt64 * r16.toInt64) (fun (t21 : Int64) =>
  if 0 ≤ x0 then
    f_X1_product_B32 x1 r1 r6 t21 0
  else
    f_X1_product_B32 x1 r1 r6 t21 1)))))
set_option maxHeartbeats 4000000 in
set_option maxRecDepth 100000 in
theorem w_X1_product_B0 {p : Program} {l : Launch} {e : Env} {s : State} {m : MethodId} {args : Array Value} {below : List Frame} {meth : Method} {c : Code} {r : Int32} (C0 : g_cx cX1_product (some .int) 6 RX1 wsX1_product p s m args meth c) : ∀ (x0 : Int32) (x1 : Int32) (ls : Array Slot), f_X1_product x0 x1 = some r → lv_has ls 6 [(0, .int x0), (1, .int x1)] → W p l e rm_X1_product s m args below meth c s.heap [] 0 0 (MQ below (g_SI r) args s 0 0 (fun _ => False)) (F0 m 0 ls []) := by
  obtain ⟨hx, hb, hr, hml, hown, hts, hlocks⟩ := id C0
  intro x0 x1 ls hf hl
  unfold f_X1_product at hf
  refine lv_iload_n hx hb dX1_product_0 rfl (lv_at hl 0 rfl) ?_
  obtain ⟨r1, hg1, hf⟩ := o_b1_go hf
  refine g_callSi (rest := []) ⟨hx, hb, hml, hown, hts⟩ (c_X4_magnitude l hg1) (va_cwS 1 hts gX1_product_X4_magnitude rfl rfl rfl (by decide +kernel) ⟨Nat.le_of_ble_eq_true rfl, Nat.le_of_ble_eq_true rfl⟩) rfl hl.1 rfl (Nat.le_of_ble_eq_true rfl) dX1_product_1 ?_
  refine lv_istore_n (lv' := [(2, .int r1), (0, .int x0), (1, .int x1)]) hx hb dX1_product_4 rfl hl (by decide) rfl (fun ls hl => ?_)
  refine lv_iload_n hx hb dX1_product_5 rfl (lv_at hl 2 rfl) ?_
  obtain ⟨r6, hg6, hf⟩ := o_b1_go hf
  refine g_callSi (rest := []) ⟨hx, hb, hml, hown, hts⟩ (c_X4_magnitude l hg6) (va_cwS 1 hts gX1_product_X4_magnitude rfl rfl rfl (by decide +kernel) ⟨Nat.le_of_ble_eq_true rfl, Nat.le_of_ble_eq_true rfl⟩) rfl hl.1 rfl (Nat.le_of_ble_eq_true rfl) dX1_product_6 ?_
  refine lv_istore_n (lv' := [(3, .int r6), (2, .int r1), (0, .int x0), (1, .int x1)]) hx hb dX1_product_9 rfl hl (by decide) rfl (fun ls hl => ?_)
  refine lv_iload_n hx hb dX1_product_10 rfl (lv_at hl 1 rfl) ?_
  obtain ⟨r11, hg11, hf⟩ := o_b1_go hf
  refine g_callSi (rest := []) ⟨hx, hb, hml, hown, hts⟩ (c_X1_significand l hg11) (va_cwS 1 hts gX1_product_X1_significand rfl rfl rfl (by decide +kernel) ⟨Nat.le_of_ble_eq_true rfl, Nat.le_of_ble_eq_true rfl⟩) rfl hl.1 rfl (Nat.le_of_ble_eq_true rfl) dX1_product_11 ?_
  refine lv_i2l hx hb dX1_product_14 rfl ?_
  refine lv_iload_n hx hb dX1_product_15 rfl (lv_at hl 0 rfl) ?_
  obtain ⟨r16, hg16, hf⟩ := o_b1_go hf
  refine g_callSi (rest := [.long r11.toInt64]) ⟨hx, hb, hml, hown, hts⟩ (c_X1_significand l hg16) (va_cwS 1 hts gX1_product_X1_significand rfl rfl rfl (by decide +kernel) ⟨Nat.le_of_ble_eq_true rfl, Nat.le_of_ble_eq_true rfl⟩) rfl hl.1 rfl (Nat.le_of_ble_eq_true rfl) dX1_product_16 ?_
  refine lv_i2l hx hb dX1_product_19 rfl ?_
  refine lv_lmul hx hb dX1_product_20 ?_
  refine lv_topl (fun t21 et21 => ?_)
  replace hf := o_nm_go et21 hf
  refine lv_lstore (lv' := [(4, .long t21), (3, .int r6), (2, .int r1), (0, .int x0), (1, .int x1)]) hx hb dX1_product_21 hl (by decide) rfl (fun ls hl => ?_)
  refine lv_iload_n hx hb dX1_product_23 rfl (lv_at hl 3 rfl) ?_
  refine lv_if_ge (tgt := 31) hx hb dX1_product_24 (by decide) (fun c24 => ?_) (fun c24 => ?_)
  · replace hf := o_t c24 hf
    refine lv_iconst (v := 0) hx hb dX1_product_31 (by decide) ?_
    exact w_X1_product_B32 C0 x1 r1 r6 t21 0 ls hf (lv_sub hl [4, 2, 1, 0] rfl)
  · replace hf := o_f c24 hf
    refine lv_iconst (v := 1) hx hb dX1_product_27 (by decide) ?_
    refine lv_goto (tgt := 32) hx hb dX1_product_28 (by decide) ?_
    exact w_X1_product_B32 C0 x1 r1 r6 t21 1 ls hf (lv_sub hl [4, 2, 1, 0] rfl)
set_option maxHeartbeats 4000000 in
set_option maxRecDepth 100000 in
theorem c_X1_product (l : Launch) {x0 : Int32} {x1 : Int32} {r : Int32} (hf : f_X1_product x0 x1 = some r) : Met l yX1_product wsX1_product rm_X1_product (g_PS [.int x0, .int x1]) (g_SI r) 0 0 (fun _ => False) := by
  refine g_metS (cc := cX1_product) (maxL := 6) (ret := (some .int)) (by decide) rfl ?_
  intro p e s m below meth c C0
  have hl := lv_entry ([.int x0, .int x1]) (n := 6) (Nat.le_of_ble_eq_true rfl)
  rw [lg_entry_eq]
  generalize (lg_sl ([.int x0, .int x1]) ++ List.replicate (6 - (lg_sl ([.int x0, .int x1])).length) Slot.unset).toArray = ls at hl ⊢
  have hl : lv_has ls 6 [(0, .int x0), (1, .int x1)] := hl
  exact w_X1_product_B0 C0 x0 x1 ls hf (lv_sub hl [0, 1] rfl)
/-! FloatBoxes$Floats.remainder(II)I -/
abbrev rm_X1_remainder : Room := { frames := 3, cells := 0, slots := 0, locals := 74 }
def f_X1_remainder_B87 (N : Nat) (x3 : Int32) (x6 : Int64) (z0 : Int32) : Option (Int32) :=
  o_b1 (f_X1_exponent x3) (fun (r90 : Int32) =>
  o_b1 (f_X1_rounded z0 x6 r90) (fun (r93 : Int32) =>
  some r93))
set_option maxHeartbeats 4000000 in
set_option maxRecDepth 100000 in
theorem w_X1_remainder_B87 {p : Program} {l : Launch} {e : Env} {s : State} {m : MethodId} {args : Array Value} {below : List Frame} {meth : Method} {c : Code} {N : Nat} {r : Int32} (C0 : g_cx cX1_remainder (some .int) 9 RX1 wsX1_remainder p s m args meth c) : ∀ (x3 : Int32) (x6 : Int64) (z0 : Int32) (ls : Array Slot), f_X1_remainder_B87 N x3 x6 z0 = some r → lv_has ls 9 [(3, .int x3), (6, .long x6)] → W p l e rm_X1_remainder s m args below meth c s.heap [] 0 0 (MQ below (g_SI r) args s 0 0 (fun _ => False)) (F0 m 87 ls [.int z0]) := by
  obtain ⟨hx, hb, hr, hml, hown, hts, hlocks⟩ := id C0
  intro x3 x6 z0 ls hf hl
  unfold f_X1_remainder_B87 at hf
  refine lv_lload hx hb dX1_remainder_87 (lv_at hl 1 rfl) ?_
  refine lv_iload_n hx hb dX1_remainder_89 rfl (lv_at hl 0 rfl) ?_
  obtain ⟨r90, hg90, hf⟩ := o_b1_go hf
  refine g_callSi (rest := [.long x6, .int z0]) ⟨hx, hb, hml, hown, hts⟩ (c_X1_exponent l hg90) (va_cwS 1 hts gX1_remainder_X1_exponent rfl rfl rfl (by decide +kernel) ⟨Nat.le_of_ble_eq_true rfl, Nat.le_of_ble_eq_true rfl⟩) rfl hl.1 rfl (Nat.le_of_ble_eq_true rfl) dX1_remainder_90 ?_
  obtain ⟨r93, hg93, hf⟩ := o_b1_go hf
  refine g_callSi (rest := []) ⟨hx, hb, hml, hown, hts⟩ (c_X1_rounded l hg93) (va_cwS 3 hts gX1_remainder_X1_rounded rfl rfl rfl (by decide +kernel) ⟨Nat.le_of_ble_eq_true rfl, Nat.le_of_ble_eq_true rfl⟩) rfl hl.1 rfl (Nat.le_of_ble_eq_true rfl) dX1_remainder_93 ?_
  have q0 := Option.some.inj hf
  subst q0
  exact g_siret hx hb hr hlocks dX1_remainder_96
def f_X1_remainder_C52 (N : Nat) (k52 : Int32 → Int32 → Int64 → Int64 → Int32 → Option (Int32)) (x0 : Int32) (x3 : Int32) (x4 : Int64) (x6 : Int64) (x8 : Int32) : Option (Int32) :=
  if x8 ≤ 0 then
    if 0 ≤ x0 then
      f_X1_remainder_B87 N x3 x6 0
    else
      f_X1_remainder_B87 N x3 x6 1
  else
    o_ck (decide (¬ x4 = 0)) (
    o_nm ((x6 <<< ((o_min x8 32).toInt64 &&& 63)) - (x6 <<< ((o_min x8 32).toInt64 &&& 63)) / x4 * x4) (fun (t70 : Int64) =>
    k52 x0 x3 x4 t70 (x8 + (-32))))
def f_X1_remainder_L52 (N : Nat) : Nat → Int32 → Int32 → Int64 → Int64 → Int32 → Option (Int32)
  | 0 => fun _ _ _ _ _ => none
  | n + 1 => f_X1_remainder_C52 N (f_X1_remainder_L52 N n)
set_option maxHeartbeats 4000000 in
set_option maxRecDepth 100000 in
theorem w_X1_remainder_C52 {p : Program} {l : Launch} {e : Env} {s : State} {m : MethodId} {args : Array Value} {below : List Frame} {meth : Method} {c : Code} {N : Nat} {r : Int32} (C0 : g_cx cX1_remainder (some .int) 9 RX1 wsX1_remainder p s m args meth c) (k52 : Int32 → Int32 → Int64 → Int64 → Int32 → Option (Int32)) (hk52 : ∀ (x0 : Int32) (x3 : Int32) (x4 : Int64) (x6 : Int64) (x8 : Int32) (ls : Array Slot), k52 x0 x3 x4 x6 x8 = some r → lv_has ls 9 [(0, .int x0), (3, .int x3), (4, .long x4), (6, .long x6), (8, .int x8)] → W p l e rm_X1_remainder s m args below meth c s.heap [] 0 0 (MQ below (g_SI r) args s 0 0 (fun _ => False)) (F0 m 52 ls [])) : ∀ (x0 : Int32) (x3 : Int32) (x4 : Int64) (x6 : Int64) (x8 : Int32) (ls : Array Slot), f_X1_remainder_C52 N k52 x0 x3 x4 x6 x8 = some r → lv_has ls 9 [(0, .int x0), (3, .int x3), (4, .long x4), (6, .long x6), (8, .int x8)] → W p l e rm_X1_remainder s m args below meth c s.heap [] 0 0 (MQ below (g_SI r) args s 0 0 (fun _ => False)) (F0 m 52 ls []) := by
  obtain ⟨hx, hb, hr, hml, hown, hts, hlocks⟩ := id C0
  intro x0 x3 x4 x6 x8 ls hf hl
  unfold f_X1_remainder_C52 at hf
  refine lv_iload hx hb dX1_remainder_52 (lv_at hl 4 rfl) ?_
  refine lv_if_le (tgt := 78) hx hb dX1_remainder_54 (by decide) (fun c54 => ?_) (fun c54 => ?_)
  · replace hf := o_t c54 hf
    refine lv_iload_n hx hb dX1_remainder_78 rfl (lv_at hl 0 rfl) ?_
    refine lv_if_ge (tgt := 86) hx hb dX1_remainder_79 (by decide) (fun c79 => ?_) (fun c79 => ?_)
    · replace hf := o_t c79 hf
      refine lv_iconst (v := 0) hx hb dX1_remainder_86 (by decide) ?_
      exact w_X1_remainder_B87 C0 x3 x6 0 ls hf (lv_sub hl [1, 3] rfl)
    · replace hf := o_f c79 hf
      refine lv_iconst (v := 1) hx hb dX1_remainder_82 (by decide) ?_
      refine lv_goto (tgt := 87) hx hb dX1_remainder_83 (by decide) ?_
      exact w_X1_remainder_B87 C0 x3 x6 1 ls hf (lv_sub hl [1, 3] rfl)
  · replace hf := o_f c54 hf
    refine lv_lload hx hb dX1_remainder_57 (lv_at hl 3 rfl) ?_
    refine lv_iload hx hb dX1_remainder_59 (lv_at hl 4 rfl) ?_
    refine lv_bipush (v := 32) hx hb dX1_remainder_61 (by decide) ?_
    refine va_mmin hx hb (by rw [hml]; exact hl.1.symm) hown (hts (.methodLink RX1 51 Lib.Math.min.name) (List.mem_cons_of_mem _ (List.mem_append_left _ (List.mem_of_getElem? (i := 0) rfl)))) (hts (.static Lib.Math.min.name) (List.mem_cons_of_mem _ (List.mem_append_left _ (List.mem_of_getElem? (i := 1) rfl)))) (hts (.initialized "java/lang/Math") (List.mem_cons_of_mem _ (List.mem_append_left _ (List.mem_of_getElem? (i := 2) rfl)))) (hts (.code Lib.Math.min.name Lib.Math.min.code 2 (some .int)) (List.mem_cons_of_mem _ (List.mem_append_left _ (List.mem_of_getElem? (i := 3) rfl)))) (Nat.le_of_ble_eq_true rfl) (Nat.le_of_ble_eq_true rfl) (Nat.zero_le _) (Nat.zero_le _) dX1_remainder_63 ?_
    refine lv_lshl hx hb dX1_remainder_66 rfl ?_
    refine lv_lload hx hb dX1_remainder_67 (lv_at hl 2 rfl) ?_
    obtain ⟨h69, hf⟩ := o_ck_go hf
    refine lv_lrem hx hb dX1_remainder_69 (of_decide_eq_true h69) ?_
    refine lv_topl (fun t70 et70 => ?_)
    replace hf := o_nm_go et70 hf
    refine lv_lstore (lv' := [(6, .long t70), (0, .int x0), (3, .int x3), (4, .long x4), (8, .int x8)]) hx hb dX1_remainder_70 hl (by decide) rfl (fun ls hl => ?_)
    refine lv_iinc (v := x8 + (-32)) (lv' := [(8, .int (x8 + (-32))), (6, .long t70), (0, .int x0), (3, .int x3), (4, .long x4)]) hx hb dX1_remainder_72 hl (k := 4) rfl rfl (by decide) rfl (fun ls hl => ?_)
    refine lv_goto (tgt := 52) hx hb dX1_remainder_75 (by decide) ?_
    exact hk52 x0 x3 x4 t70 (x8 + (-32)) ls hf (lv_sub hl [2, 3, 4, 1, 0] rfl)
set_option maxHeartbeats 4000000 in
set_option maxRecDepth 100000 in
theorem w_X1_remainder_L52 {p : Program} {l : Launch} {e : Env} {s : State} {m : MethodId} {args : Array Value} {below : List Frame} {meth : Method} {c : Code} {N : Nat} {r : Int32} (C0 : g_cx cX1_remainder (some .int) 9 RX1 wsX1_remainder p s m args meth c) : ∀ n : Nat, ∀ (x0 : Int32) (x3 : Int32) (x4 : Int64) (x6 : Int64) (x8 : Int32) (ls : Array Slot), f_X1_remainder_L52 N n x0 x3 x4 x6 x8 = some r → lv_has ls 9 [(0, .int x0), (3, .int x3), (4, .long x4), (6, .long x6), (8, .int x8)] → W p l e rm_X1_remainder s m args below meth c s.heap [] 0 0 (MQ below (g_SI r) args s 0 0 (fun _ => False)) (F0 m 52 ls []) := by
  intro n
  induction n with
  | zero =>
    intro x0 x3 x4 x6 x8 ls hf
    exact absurd hf (fun h => nomatch h)
  | succ n ih =>
    intro x0 x3 x4 x6 x8 ls hf
    exact w_X1_remainder_C52 C0 _ ih x0 x3 x4 x6 x8 ls hf
def f_X1_remainder (N : Nat) (x0 : Int32) (x1 : Int32) : Option (Int32) :=
  o_b1 (f_X4_magnitude x0) (fun (r1 : Int32) =>
  o_b1 (f_X4_magnitude x1) (fun (r6 : Int32) =>
  o_b1 (f_X1_significand r6) (fun (r11 : Int32) =>
  if r1 < r6 then
    some x0
  else
    if (lg_cmp r11.toInt64 0) = 0 then
      some x0
    else
      o_b1 (f_X1_significand r1) (fun (r32 : Int32) =>
      o_ck (decide (¬ r11.toInt64 = 0)) (
      o_nm (r32.toInt64 - r32.toInt64 / r11.toInt64 * r11.toInt64) (fun (t39 : Int64) =>
      o_b1 (f_X1_exponent r1) (fun (r42 : Int32) =>
      o_b1 (f_X1_exponent r6) (fun (r46 : Int32) =>
      o_nm (r42 - r46) (fun (t50 : Int32) =>
      f_X1_remainder_L52 N N x0 r6 r11.toInt64 t39 t50)))))))))
set_option maxHeartbeats 4000000 in
set_option maxRecDepth 100000 in
theorem w_X1_remainder_B0 {p : Program} {l : Launch} {e : Env} {s : State} {m : MethodId} {args : Array Value} {below : List Frame} {meth : Method} {c : Code} {N : Nat} {r : Int32} (C0 : g_cx cX1_remainder (some .int) 9 RX1 wsX1_remainder p s m args meth c) : ∀ (x0 : Int32) (x1 : Int32) (ls : Array Slot), f_X1_remainder N x0 x1 = some r → lv_has ls 9 [(0, .int x0), (1, .int x1)] → W p l e rm_X1_remainder s m args below meth c s.heap [] 0 0 (MQ below (g_SI r) args s 0 0 (fun _ => False)) (F0 m 0 ls []) := by
  obtain ⟨hx, hb, hr, hml, hown, hts, hlocks⟩ := id C0
  intro x0 x1 ls hf hl
  unfold f_X1_remainder at hf
  refine lv_iload_n hx hb dX1_remainder_0 rfl (lv_at hl 0 rfl) ?_
  obtain ⟨r1, hg1, hf⟩ := o_b1_go hf
  refine g_callSi (rest := []) ⟨hx, hb, hml, hown, hts⟩ (c_X4_magnitude l hg1) (va_cwS 1 hts gX1_remainder_X4_magnitude rfl rfl rfl (by decide +kernel) ⟨Nat.le_of_ble_eq_true rfl, Nat.le_of_ble_eq_true rfl⟩) rfl hl.1 rfl (Nat.le_of_ble_eq_true rfl) dX1_remainder_1 ?_
  refine lv_istore_n (lv' := [(2, .int r1), (0, .int x0), (1, .int x1)]) hx hb dX1_remainder_4 rfl hl (by decide) rfl (fun ls hl => ?_)
  refine lv_iload_n hx hb dX1_remainder_5 rfl (lv_at hl 2 rfl) ?_
  obtain ⟨r6, hg6, hf⟩ := o_b1_go hf
  refine g_callSi (rest := []) ⟨hx, hb, hml, hown, hts⟩ (c_X4_magnitude l hg6) (va_cwS 1 hts gX1_remainder_X4_magnitude rfl rfl rfl (by decide +kernel) ⟨Nat.le_of_ble_eq_true rfl, Nat.le_of_ble_eq_true rfl⟩) rfl hl.1 rfl (Nat.le_of_ble_eq_true rfl) dX1_remainder_6 ?_
  refine lv_istore_n (lv' := [(3, .int r6), (2, .int r1), (0, .int x0), (1, .int x1)]) hx hb dX1_remainder_9 rfl hl (by decide) rfl (fun ls hl => ?_)
  refine lv_iload_n hx hb dX1_remainder_10 rfl (lv_at hl 0 rfl) ?_
  obtain ⟨r11, hg11, hf⟩ := o_b1_go hf
  refine g_callSi (rest := []) ⟨hx, hb, hml, hown, hts⟩ (c_X1_significand l hg11) (va_cwS 1 hts gX1_remainder_X1_significand rfl rfl rfl (by decide +kernel) ⟨Nat.le_of_ble_eq_true rfl, Nat.le_of_ble_eq_true rfl⟩) rfl hl.1 rfl (Nat.le_of_ble_eq_true rfl) dX1_remainder_11 ?_
  refine lv_i2l hx hb dX1_remainder_14 rfl ?_
  refine lv_lstore (lv' := [(4, .long r11.toInt64), (3, .int r6), (2, .int r1), (0, .int x0), (1, .int x1)]) hx hb dX1_remainder_15 hl (by decide) rfl (fun ls hl => ?_)
  refine lv_iload_n hx hb dX1_remainder_17 rfl (lv_at hl 2 rfl) ?_
  refine lv_iload_n hx hb dX1_remainder_18 rfl (lv_at hl 1 rfl) ?_
  refine lv_icmp_lt (tgt := 29) hx hb dX1_remainder_19 (by decide) (fun c19 => ?_) (fun c19 => ?_)
  · replace hf := o_t c19 hf
    refine lv_iload_n hx hb dX1_remainder_29 rfl (lv_at hl 3 rfl) ?_
    have q0 := Option.some.inj hf
    subst q0
    exact g_siret hx hb hr hlocks dX1_remainder_30
  · replace hf := o_f c19 hf
    refine lv_lload hx hb dX1_remainder_22 (lv_at hl 0 rfl) ?_
    refine lv_lconst (v := 0) hx hb dX1_remainder_24 (by decide) ?_
    refine W.lcmp hx hb dX1_remainder_25 ?_
    refine lv_if_ne (tgt := 31) hx hb dX1_remainder_26 (by decide) (fun c26 => ?_) (fun c26 => ?_)
    · replace hf := o_f c26 hf
      refine lv_iload_n hx hb dX1_remainder_31 rfl (lv_at hl 2 rfl) ?_
      obtain ⟨r32, hg32, hf⟩ := o_b1_go hf
      refine g_callSi (rest := []) ⟨hx, hb, hml, hown, hts⟩ (c_X1_significand l hg32) (va_cwS 1 hts gX1_remainder_X1_significand rfl rfl rfl (by decide +kernel) ⟨Nat.le_of_ble_eq_true rfl, Nat.le_of_ble_eq_true rfl⟩) rfl hl.1 rfl (Nat.le_of_ble_eq_true rfl) dX1_remainder_32 ?_
      refine lv_i2l hx hb dX1_remainder_35 rfl ?_
      refine lv_lload hx hb dX1_remainder_36 (lv_at hl 0 rfl) ?_
      obtain ⟨h38, hf⟩ := o_ck_go hf
      refine lv_lrem hx hb dX1_remainder_38 (of_decide_eq_true h38) ?_
      refine lv_topl (fun t39 et39 => ?_)
      replace hf := o_nm_go et39 hf
      refine lv_lstore (lv' := [(6, .long t39), (4, .long r11.toInt64), (3, .int r6), (2, .int r1), (0, .int x0), (1, .int x1)]) hx hb dX1_remainder_39 hl (by decide) rfl (fun ls hl => ?_)
      refine lv_iload_n hx hb dX1_remainder_41 rfl (lv_at hl 3 rfl) ?_
      obtain ⟨r42, hg42, hf⟩ := o_b1_go hf
      refine g_callSi (rest := []) ⟨hx, hb, hml, hown, hts⟩ (c_X1_exponent l hg42) (va_cwS 1 hts gX1_remainder_X1_exponent rfl rfl rfl (by decide +kernel) ⟨Nat.le_of_ble_eq_true rfl, Nat.le_of_ble_eq_true rfl⟩) rfl hl.1 rfl (Nat.le_of_ble_eq_true rfl) dX1_remainder_42 ?_
      refine lv_iload_n hx hb dX1_remainder_45 rfl (lv_at hl 2 rfl) ?_
      obtain ⟨r46, hg46, hf⟩ := o_b1_go hf
      refine g_callSi (rest := [.int r42]) ⟨hx, hb, hml, hown, hts⟩ (c_X1_exponent l hg46) (va_cwS 1 hts gX1_remainder_X1_exponent rfl rfl rfl (by decide +kernel) ⟨Nat.le_of_ble_eq_true rfl, Nat.le_of_ble_eq_true rfl⟩) rfl hl.1 rfl (Nat.le_of_ble_eq_true rfl) dX1_remainder_46 ?_
      refine lv_isub hx hb dX1_remainder_49 ?_
      refine lv_topi (fun t50 et50 => ?_)
      replace hf := o_nm_go et50 hf
      refine lv_istore (lv' := [(8, .int t50), (6, .long t39), (4, .long r11.toInt64), (3, .int r6), (2, .int r1), (0, .int x0), (1, .int x1)]) hx hb dX1_remainder_50 hl (by decide) rfl (fun ls hl => ?_)
      exact w_X1_remainder_L52 C0 N x0 r6 r11.toInt64 t39 t50 ls hf (lv_sub hl [5, 3, 2, 1, 0] rfl)
    · replace hf := o_t c26 hf
      refine lv_iload_n hx hb dX1_remainder_29 rfl (lv_at hl 3 rfl) ?_
      have q0 := Option.some.inj hf
      subst q0
      exact g_siret hx hb hr hlocks dX1_remainder_30
set_option maxHeartbeats 4000000 in
set_option maxRecDepth 100000 in
theorem c_X1_remainder (l : Launch) {N : Nat} {x0 : Int32} {x1 : Int32} {r : Int32} (hf : f_X1_remainder N x0 x1 = some r) : Met l yX1_remainder wsX1_remainder rm_X1_remainder (g_PS [.int x0, .int x1]) (g_SI r) 0 0 (fun _ => False) := by
  refine g_metS (cc := cX1_remainder) (maxL := 9) (ret := (some .int)) (by decide) rfl ?_
  intro p e s m below meth c C0
  have hl := lv_entry ([.int x0, .int x1]) (n := 9) (Nat.le_of_ble_eq_true rfl)
  rw [lg_entry_eq]
  generalize (lg_sl ([.int x0, .int x1]) ++ List.replicate (9 - (lg_sl ([.int x0, .int x1])).length) Slot.unset).toArray = ls at hl ⊢
  have hl : lv_has ls 9 [(0, .int x0), (1, .int x1)] := hl
  exact w_X1_remainder_B0 C0 x0 x1 ls hf (lv_sub hl [0, 1] rfl)
/-! FloatBoxes$Places.isPlace(I)Z -/
abbrev rm_X4_isPlace : Room := { frames := 0, cells := 0, slots := 0, locals := 0 }
def f_X4_isPlace  (x0 : Int32) : Option (Int32) :=
  if x0 < ((-2139095040)) then
    some 0
  else
    if 2139095039 < x0 then
      some 0
    else
      some 1
set_option maxHeartbeats 4000000 in
set_option maxRecDepth 100000 in
theorem w_X4_isPlace_B0 {p : Program} {l : Launch} {e : Env} {s : State} {m : MethodId} {args : Array Value} {below : List Frame} {meth : Method} {c : Code} {r : Int32} (C0 : g_cx cX4_isPlace (some .boolean) 1 RX4 wsX4_isPlace p s m args meth c) : ∀ (x0 : Int32) (ls : Array Slot), f_X4_isPlace x0 = some r → lv_has ls 1 [(0, .int x0)] → W p l e rm_X4_isPlace s m args below meth c s.heap [] 0 0 (MQ below (g_SI r) args s 0 0 (fun _ => False)) (F0 m 0 ls []) := by
  obtain ⟨hx, hb, hr, hml, hown, hts, hlocks⟩ := id C0
  intro x0 ls hf hl
  unfold f_X4_isPlace at hf
  refine lv_iload_n hx hb dX4_isPlace_0 rfl (lv_at hl 0 rfl) ?_
  refine lv_ldc (v := (-2139095040)) hx hb hown (hts (.constant RX4 9 (-2139095040)) (List.mem_cons_of_mem _ (List.mem_of_getElem? (i := 0) rfl))) dX4_isPlace_1 ?_
  refine lv_icmp_lt (tgt := 16) hx hb dX4_isPlace_3 (by decide) (fun c3 => ?_) (fun c3 => ?_)
  · replace hf := o_t c3 hf
    refine lv_iconst (v := 0) hx hb dX4_isPlace_16 (by decide) ?_
    have q0 := Option.some.inj hf
    subst q0
    exact g_szret hx hb hr hlocks (by decide) dX4_isPlace_17
  · replace hf := o_f c3 hf
    refine lv_iload_n hx hb dX4_isPlace_6 rfl (lv_at hl 0 rfl) ?_
    refine lv_ldc (v := 2139095039) hx hb hown (hts (.constant RX4 10 (2139095039)) (List.mem_cons_of_mem _ (List.mem_of_getElem? (i := 1) rfl))) dX4_isPlace_7 ?_
    refine lv_icmp_gt (tgt := 16) hx hb dX4_isPlace_9 (by decide) (fun c9 => ?_) (fun c9 => ?_)
    · replace hf := o_t c9 hf
      refine lv_iconst (v := 0) hx hb dX4_isPlace_16 (by decide) ?_
      have q0 := Option.some.inj hf
      subst q0
      exact g_szret hx hb hr hlocks (by decide) dX4_isPlace_17
    · replace hf := o_f c9 hf
      refine lv_iconst (v := 1) hx hb dX4_isPlace_12 (by decide) ?_
      refine lv_goto (tgt := 17) hx hb dX4_isPlace_13 (by decide) ?_
      have q0 := Option.some.inj hf
      subst q0
      exact g_szret hx hb hr hlocks (by decide) dX4_isPlace_17
set_option maxHeartbeats 4000000 in
set_option maxRecDepth 100000 in
theorem c_X4_isPlace (l : Launch) {x0 : Int32} {r : Int32} (hf : f_X4_isPlace x0 = some r) : Met l yX4_isPlace wsX4_isPlace rm_X4_isPlace (g_PS [.int x0]) (g_SI r) 0 0 (fun _ => False) := by
  refine g_metS (cc := cX4_isPlace) (maxL := 1) (ret := (some .boolean)) (by decide) rfl ?_
  intro p e s m below meth c C0
  have hl := lv_entry ([.int x0]) (n := 1) (Nat.le_of_ble_eq_true rfl)
  rw [lg_entry_eq]
  generalize (lg_sl ([.int x0]) ++ List.replicate (1 - (lg_sl ([.int x0])).length) Slot.unset).toArray = ls at hl ⊢
  have hl : lv_has ls 1 [(0, .int x0)] := hl
  exact w_X4_isPlace_B0 C0 x0 ls hf (lv_sub hl [0] rfl)
/-! FloatBoxes$Places.isRange(II)Z -/
abbrev rm_X4_isRange : Room := { frames := 1, cells := 0, slots := 0, locals := 20 }
def f_X4_isRange  (x0 : Int32) (x1 : Int32) : Option (Int32) :=
  o_b1 (f_X4_isPlace x0) (fun (r1 : Int32) =>
  if r1 = 0 then
    some 0
  else
    o_b1 (f_X4_isPlace x1) (fun (r8 : Int32) =>
    if r8 = 0 then
      some 0
    else
      if x1 < x0 then
        some 0
      else
        some 1))
set_option maxHeartbeats 4000000 in
set_option maxRecDepth 100000 in
theorem w_X4_isRange_B0 {p : Program} {l : Launch} {e : Env} {s : State} {m : MethodId} {args : Array Value} {below : List Frame} {meth : Method} {c : Code} {r : Int32} (C0 : g_cx cX4_isRange (some .boolean) 2 RX4 wsX4_isRange p s m args meth c) : ∀ (x0 : Int32) (x1 : Int32) (ls : Array Slot), f_X4_isRange x0 x1 = some r → lv_has ls 2 [(0, .int x0), (1, .int x1)] → W p l e rm_X4_isRange s m args below meth c s.heap [] 0 0 (MQ below (g_SI r) args s 0 0 (fun _ => False)) (F0 m 0 ls []) := by
  obtain ⟨hx, hb, hr, hml, hown, hts, hlocks⟩ := id C0
  intro x0 x1 ls hf hl
  unfold f_X4_isRange at hf
  refine lv_iload_n hx hb dX4_isRange_0 rfl (lv_at hl 0 rfl) ?_
  obtain ⟨r1, hg1, hf⟩ := o_b1_go hf
  refine g_callSi (rest := []) ⟨hx, hb, hml, hown, hts⟩ (c_X4_isPlace l hg1) (va_cwS 1 hts gX4_isRange_X4_isPlace rfl rfl rfl (by decide +kernel) ⟨Nat.le_of_ble_eq_true rfl, Nat.le_of_ble_eq_true rfl⟩) rfl hl.1 rfl (Nat.le_of_ble_eq_true rfl) dX4_isRange_1 ?_
  refine lv_if_eq (tgt := 23) hx hb dX4_isRange_4 (by decide) (fun c4 => ?_) (fun c4 => ?_)
  · replace hf := o_t c4 hf
    refine lv_iconst (v := 0) hx hb dX4_isRange_23 (by decide) ?_
    have q0 := Option.some.inj hf
    subst q0
    exact g_szret hx hb hr hlocks (by decide) dX4_isRange_24
  · replace hf := o_f c4 hf
    refine lv_iload_n hx hb dX4_isRange_7 rfl (lv_at hl 1 rfl) ?_
    obtain ⟨r8, hg8, hf⟩ := o_b1_go hf
    refine g_callSi (rest := []) ⟨hx, hb, hml, hown, hts⟩ (c_X4_isPlace l hg8) (va_cwS 1 hts gX4_isRange_X4_isPlace rfl rfl rfl (by decide +kernel) ⟨Nat.le_of_ble_eq_true rfl, Nat.le_of_ble_eq_true rfl⟩) rfl hl.1 rfl (Nat.le_of_ble_eq_true rfl) dX4_isRange_8 ?_
    refine lv_if_eq (tgt := 23) hx hb dX4_isRange_11 (by decide) (fun c11 => ?_) (fun c11 => ?_)
    · replace hf := o_t c11 hf
      refine lv_iconst (v := 0) hx hb dX4_isRange_23 (by decide) ?_
      have q0 := Option.some.inj hf
      subst q0
      exact g_szret hx hb hr hlocks (by decide) dX4_isRange_24
    · replace hf := o_f c11 hf
      refine lv_iload_n hx hb dX4_isRange_14 rfl (lv_at hl 0 rfl) ?_
      refine lv_iload_n hx hb dX4_isRange_15 rfl (lv_at hl 1 rfl) ?_
      refine lv_icmp_gt (tgt := 23) hx hb dX4_isRange_16 (by decide) (fun c16 => ?_) (fun c16 => ?_)
      · replace hf := o_t c16 hf
        refine lv_iconst (v := 0) hx hb dX4_isRange_23 (by decide) ?_
        have q0 := Option.some.inj hf
        subst q0
        exact g_szret hx hb hr hlocks (by decide) dX4_isRange_24
      · replace hf := o_f c16 hf
        refine lv_iconst (v := 1) hx hb dX4_isRange_19 (by decide) ?_
        refine lv_goto (tgt := 24) hx hb dX4_isRange_20 (by decide) ?_
        have q0 := Option.some.inj hf
        subst q0
        exact g_szret hx hb hr hlocks (by decide) dX4_isRange_24
set_option maxHeartbeats 4000000 in
set_option maxRecDepth 100000 in
theorem c_X4_isRange (l : Launch) {x0 : Int32} {x1 : Int32} {r : Int32} (hf : f_X4_isRange x0 x1 = some r) : Met l yX4_isRange wsX4_isRange rm_X4_isRange (g_PS [.int x0, .int x1]) (g_SI r) 0 0 (fun _ => False) := by
  refine g_metS (cc := cX4_isRange) (maxL := 2) (ret := (some .boolean)) (by decide) rfl ?_
  intro p e s m below meth c C0
  have hl := lv_entry ([.int x0, .int x1]) (n := 2) (Nat.le_of_ble_eq_true rfl)
  rw [lg_entry_eq]
  generalize (lg_sl ([.int x0, .int x1]) ++ List.replicate (2 - (lg_sl ([.int x0, .int x1])).length) Slot.unset).toArray = ls at hl ⊢
  have hl : lv_has ls 2 [(0, .int x0), (1, .int x1)] := hl
  exact w_X4_isRange_B0 C0 x0 x1 ls hf (lv_sub hl [0, 1] rfl)
/-! FloatBoxes$Places.held(II)J -/
abbrev rm_X4_held : Room := { frames := 0, cells := 0, slots := 0, locals := 0 }
def f_X4_held  (x0 : Int32) (x1 : Int32) : Option (Int64) :=
  some ((x1.toInt64 - x0.toInt64) + 1)
set_option maxHeartbeats 4000000 in
set_option maxRecDepth 100000 in
theorem w_X4_held_B0 {p : Program} {l : Launch} {e : Env} {s : State} {m : MethodId} {args : Array Value} {below : List Frame} {meth : Method} {c : Code} {r : Int64} (C0 : g_cx cX4_held (some .long) 2 RX4 wsX4_held p s m args meth c) : ∀ (x0 : Int32) (x1 : Int32) (ls : Array Slot), f_X4_held x0 x1 = some r → lv_has ls 2 [(0, .int x0), (1, .int x1)] → W p l e rm_X4_held s m args below meth c s.heap [] 0 0 (MQ below (g_SL r) args s 0 0 (fun _ => False)) (F0 m 0 ls []) := by
  obtain ⟨hx, hb, hr, hml, hown, hts, hlocks⟩ := id C0
  intro x0 x1 ls hf hl
  unfold f_X4_held at hf
  refine lv_iload_n hx hb dX4_held_0 rfl (lv_at hl 1 rfl) ?_
  refine lv_i2l hx hb dX4_held_1 rfl ?_
  refine lv_iload_n hx hb dX4_held_2 rfl (lv_at hl 0 rfl) ?_
  refine lv_i2l hx hb dX4_held_3 rfl ?_
  refine lv_lsub hx hb dX4_held_4 ?_
  refine lv_lconst (v := 1) hx hb dX4_held_5 (by decide) ?_
  refine lv_ladd hx hb dX4_held_6 ?_
  have q0 := Option.some.inj hf
  subst q0
  exact g_slret hx hb hr hlocks dX4_held_7
set_option maxHeartbeats 4000000 in
set_option maxRecDepth 100000 in
theorem c_X4_held (l : Launch) {x0 : Int32} {x1 : Int32} {r : Int64} (hf : f_X4_held x0 x1 = some r) : Met l yX4_held wsX4_held rm_X4_held (g_PS [.int x0, .int x1]) (g_SL r) 0 0 (fun _ => False) := by
  refine g_metS (cc := cX4_held) (maxL := 2) (ret := (some .long)) (by decide) rfl ?_
  intro p e s m below meth c C0
  have hl := lv_entry ([.int x0, .int x1]) (n := 2) (Nat.le_of_ble_eq_true rfl)
  rw [lg_entry_eq]
  generalize (lg_sl ([.int x0, .int x1]) ++ List.replicate (2 - (lg_sl ([.int x0, .int x1])).length) Slot.unset).toArray = ls at hl ⊢
  have hl : lv_has ls 2 [(0, .int x0), (1, .int x1)] := hl
  exact w_X4_held_B0 C0 x0 x1 ls hf (lv_sub hl [0, 1] rfl)
/-! FloatBoxes$Places.middle(II)I -/
abbrev rm_X4_middle : Room := { frames := 0, cells := 0, slots := 0, locals := 0 }
def f_X4_middle  (x0 : Int32) (x1 : Int32) : Option (Int32) :=
  some (((x0.toInt64 + x1.toInt64) >>> ((1 : Int32).toInt64 &&& 63)).toInt32)
set_option maxHeartbeats 4000000 in
set_option maxRecDepth 100000 in
theorem w_X4_middle_B0 {p : Program} {l : Launch} {e : Env} {s : State} {m : MethodId} {args : Array Value} {below : List Frame} {meth : Method} {c : Code} {r : Int32} (C0 : g_cx cX4_middle (some .int) 2 RX4 wsX4_middle p s m args meth c) : ∀ (x0 : Int32) (x1 : Int32) (ls : Array Slot), f_X4_middle x0 x1 = some r → lv_has ls 2 [(0, .int x0), (1, .int x1)] → W p l e rm_X4_middle s m args below meth c s.heap [] 0 0 (MQ below (g_SI r) args s 0 0 (fun _ => False)) (F0 m 0 ls []) := by
  obtain ⟨hx, hb, hr, hml, hown, hts, hlocks⟩ := id C0
  intro x0 x1 ls hf hl
  unfold f_X4_middle at hf
  refine lv_iload_n hx hb dX4_middle_0 rfl (lv_at hl 0 rfl) ?_
  refine lv_i2l hx hb dX4_middle_1 rfl ?_
  refine lv_iload_n hx hb dX4_middle_2 rfl (lv_at hl 1 rfl) ?_
  refine lv_i2l hx hb dX4_middle_3 rfl ?_
  refine lv_ladd hx hb dX4_middle_4 ?_
  refine lv_iconst (v := 1) hx hb dX4_middle_5 (by decide) ?_
  refine lv_lshr hx hb dX4_middle_6 rfl ?_
  refine lv_l2i hx hb dX4_middle_7 rfl ?_
  have q0 := Option.some.inj hf
  subst q0
  exact g_siret hx hb hr hlocks dX4_middle_8
set_option maxHeartbeats 4000000 in
set_option maxRecDepth 100000 in
theorem c_X4_middle (l : Launch) {x0 : Int32} {x1 : Int32} {r : Int32} (hf : f_X4_middle x0 x1 = some r) : Met l yX4_middle wsX4_middle rm_X4_middle (g_PS [.int x0, .int x1]) (g_SI r) 0 0 (fun _ => False) := by
  refine g_metS (cc := cX4_middle) (maxL := 2) (ret := (some .int)) (by decide) rfl ?_
  intro p e s m below meth c C0
  have hl := lv_entry ([.int x0, .int x1]) (n := 2) (Nat.le_of_ble_eq_true rfl)
  rw [lg_entry_eq]
  generalize (lg_sl ([.int x0, .int x1]) ++ List.replicate (2 - (lg_sl ([.int x0, .int x1])).length) Slot.unset).toArray = ls at hl ⊢
  have hl : lv_has ls 2 [(0, .int x0), (1, .int x1)] := hl
  exact w_X4_middle_B0 C0 x0 x1 ls hf (lv_sub hl [0, 1] rfl)
/-! FloatBoxes$Places.rank(I)I -/
abbrev rm_X4_rank : Room := { frames := 0, cells := 0, slots := 0, locals := 0 }
def f_X4_rank  (x0 : Int32) : Option (Int32) :=
  if 0 ≤ x0 then
    some x0
  else
    some (x0 + 1)
set_option maxHeartbeats 4000000 in
set_option maxRecDepth 100000 in
theorem w_X4_rank_B0 {p : Program} {l : Launch} {e : Env} {s : State} {m : MethodId} {args : Array Value} {below : List Frame} {meth : Method} {c : Code} {r : Int32} (C0 : g_cx cX4_rank (some .int) 1 RX4 wsX4_rank p s m args meth c) : ∀ (x0 : Int32) (ls : Array Slot), f_X4_rank x0 = some r → lv_has ls 1 [(0, .int x0)] → W p l e rm_X4_rank s m args below meth c s.heap [] 0 0 (MQ below (g_SI r) args s 0 0 (fun _ => False)) (F0 m 0 ls []) := by
  obtain ⟨hx, hb, hr, hml, hown, hts, hlocks⟩ := id C0
  intro x0 ls hf hl
  unfold f_X4_rank at hf
  refine lv_iload_n hx hb dX4_rank_0 rfl (lv_at hl 0 rfl) ?_
  refine lv_if_ge (tgt := 10) hx hb dX4_rank_1 (by decide) (fun c1 => ?_) (fun c1 => ?_)
  · replace hf := o_t c1 hf
    refine lv_iload_n hx hb dX4_rank_10 rfl (lv_at hl 0 rfl) ?_
    have q0 := Option.some.inj hf
    subst q0
    exact g_siret hx hb hr hlocks dX4_rank_11
  · replace hf := o_f c1 hf
    refine lv_iload_n hx hb dX4_rank_4 rfl (lv_at hl 0 rfl) ?_
    refine lv_iconst (v := 1) hx hb dX4_rank_5 (by decide) ?_
    refine lv_iadd hx hb dX4_rank_6 ?_
    refine lv_goto (tgt := 11) hx hb dX4_rank_7 (by decide) ?_
    have q0 := Option.some.inj hf
    subst q0
    exact g_siret hx hb hr hlocks dX4_rank_11
set_option maxHeartbeats 4000000 in
set_option maxRecDepth 100000 in
theorem c_X4_rank (l : Launch) {x0 : Int32} {r : Int32} (hf : f_X4_rank x0 = some r) : Met l yX4_rank wsX4_rank rm_X4_rank (g_PS [.int x0]) (g_SI r) 0 0 (fun _ => False) := by
  refine g_metS (cc := cX4_rank) (maxL := 1) (ret := (some .int)) (by decide) rfl ?_
  intro p e s m below meth c C0
  have hl := lv_entry ([.int x0]) (n := 1) (Nat.le_of_ble_eq_true rfl)
  rw [lg_entry_eq]
  generalize (lg_sl ([.int x0]) ++ List.replicate (1 - (lg_sl ([.int x0])).length) Slot.unset).toArray = ls at hl ⊢
  have hl : lv_has ls 1 [(0, .int x0)] := hl
  exact w_X4_rank_B0 C0 x0 ls hf (lv_sub hl [0] rfl)
/-! FloatBoxes$Places.firstOfRank(I)I -/
abbrev rm_X4_firstOfRank : Room := { frames := 0, cells := 0, slots := 0, locals := 0 }
def f_X4_firstOfRank  (x0 : Int32) : Option (Int32) :=
  if 0 < x0 then
    some x0
  else
    some (x0 - 1)
set_option maxHeartbeats 4000000 in
set_option maxRecDepth 100000 in
theorem w_X4_firstOfRank_B0 {p : Program} {l : Launch} {e : Env} {s : State} {m : MethodId} {args : Array Value} {below : List Frame} {meth : Method} {c : Code} {r : Int32} (C0 : g_cx cX4_firstOfRank (some .int) 1 RX4 wsX4_firstOfRank p s m args meth c) : ∀ (x0 : Int32) (ls : Array Slot), f_X4_firstOfRank x0 = some r → lv_has ls 1 [(0, .int x0)] → W p l e rm_X4_firstOfRank s m args below meth c s.heap [] 0 0 (MQ below (g_SI r) args s 0 0 (fun _ => False)) (F0 m 0 ls []) := by
  obtain ⟨hx, hb, hr, hml, hown, hts, hlocks⟩ := id C0
  intro x0 ls hf hl
  unfold f_X4_firstOfRank at hf
  refine lv_iload_n hx hb dX4_firstOfRank_0 rfl (lv_at hl 0 rfl) ?_
  refine lv_if_gt (tgt := 10) hx hb dX4_firstOfRank_1 (by decide) (fun c1 => ?_) (fun c1 => ?_)
  · replace hf := o_t c1 hf
    refine lv_iload_n hx hb dX4_firstOfRank_10 rfl (lv_at hl 0 rfl) ?_
    have q0 := Option.some.inj hf
    subst q0
    exact g_siret hx hb hr hlocks dX4_firstOfRank_11
  · replace hf := o_f c1 hf
    refine lv_iload_n hx hb dX4_firstOfRank_4 rfl (lv_at hl 0 rfl) ?_
    refine lv_iconst (v := 1) hx hb dX4_firstOfRank_5 (by decide) ?_
    refine lv_isub hx hb dX4_firstOfRank_6 ?_
    refine lv_goto (tgt := 11) hx hb dX4_firstOfRank_7 (by decide) ?_
    have q0 := Option.some.inj hf
    subst q0
    exact g_siret hx hb hr hlocks dX4_firstOfRank_11
set_option maxHeartbeats 4000000 in
set_option maxRecDepth 100000 in
theorem c_X4_firstOfRank (l : Launch) {x0 : Int32} {r : Int32} (hf : f_X4_firstOfRank x0 = some r) : Met l yX4_firstOfRank wsX4_firstOfRank rm_X4_firstOfRank (g_PS [.int x0]) (g_SI r) 0 0 (fun _ => False) := by
  refine g_metS (cc := cX4_firstOfRank) (maxL := 1) (ret := (some .int)) (by decide) rfl ?_
  intro p e s m below meth c C0
  have hl := lv_entry ([.int x0]) (n := 1) (Nat.le_of_ble_eq_true rfl)
  rw [lg_entry_eq]
  generalize (lg_sl ([.int x0]) ++ List.replicate (1 - (lg_sl ([.int x0])).length) Slot.unset).toArray = ls at hl ⊢
  have hl : lv_has ls 1 [(0, .int x0)] := hl
  exact w_X4_firstOfRank_B0 C0 x0 ls hf (lv_sub hl [0] rfl)
/-! FloatBoxes$Places.lastOfRank(I)I -/
abbrev rm_X4_lastOfRank : Room := { frames := 0, cells := 0, slots := 0, locals := 0 }
def f_X4_lastOfRank  (x0 : Int32) : Option (Int32) :=
  if 0 ≤ x0 then
    some x0
  else
    some (x0 - 1)
set_option maxHeartbeats 4000000 in
set_option maxRecDepth 100000 in
theorem w_X4_lastOfRank_B0 {p : Program} {l : Launch} {e : Env} {s : State} {m : MethodId} {args : Array Value} {below : List Frame} {meth : Method} {c : Code} {r : Int32} (C0 : g_cx cX4_lastOfRank (some .int) 1 RX4 wsX4_lastOfRank p s m args meth c) : ∀ (x0 : Int32) (ls : Array Slot), f_X4_lastOfRank x0 = some r → lv_has ls 1 [(0, .int x0)] → W p l e rm_X4_lastOfRank s m args below meth c s.heap [] 0 0 (MQ below (g_SI r) args s 0 0 (fun _ => False)) (F0 m 0 ls []) := by
  obtain ⟨hx, hb, hr, hml, hown, hts, hlocks⟩ := id C0
  intro x0 ls hf hl
  unfold f_X4_lastOfRank at hf
  refine lv_iload_n hx hb dX4_lastOfRank_0 rfl (lv_at hl 0 rfl) ?_
  refine lv_if_ge (tgt := 10) hx hb dX4_lastOfRank_1 (by decide) (fun c1 => ?_) (fun c1 => ?_)
  · replace hf := o_t c1 hf
    refine lv_iload_n hx hb dX4_lastOfRank_10 rfl (lv_at hl 0 rfl) ?_
    have q0 := Option.some.inj hf
    subst q0
    exact g_siret hx hb hr hlocks dX4_lastOfRank_11
  · replace hf := o_f c1 hf
    refine lv_iload_n hx hb dX4_lastOfRank_4 rfl (lv_at hl 0 rfl) ?_
    refine lv_iconst (v := 1) hx hb dX4_lastOfRank_5 (by decide) ?_
    refine lv_isub hx hb dX4_lastOfRank_6 ?_
    refine lv_goto (tgt := 11) hx hb dX4_lastOfRank_7 (by decide) ?_
    have q0 := Option.some.inj hf
    subst q0
    exact g_siret hx hb hr hlocks dX4_lastOfRank_11
set_option maxHeartbeats 4000000 in
set_option maxRecDepth 100000 in
theorem c_X4_lastOfRank (l : Launch) {x0 : Int32} {r : Int32} (hf : f_X4_lastOfRank x0 = some r) : Met l yX4_lastOfRank wsX4_lastOfRank rm_X4_lastOfRank (g_PS [.int x0]) (g_SI r) 0 0 (fun _ => False) := by
  refine g_metS (cc := cX4_lastOfRank) (maxL := 1) (ret := (some .int)) (by decide) rfl ?_
  intro p e s m below meth c C0
  have hl := lv_entry ([.int x0]) (n := 1) (Nat.le_of_ble_eq_true rfl)
  rw [lg_entry_eq]
  generalize (lg_sl ([.int x0]) ++ List.replicate (1 - (lg_sl ([.int x0])).length) Slot.unset).toArray = ls at hl ⊢
  have hl : lv_has ls 1 [(0, .int x0)] := hl
  exact w_X4_lastOfRank_B0 C0 x0 ls hf (lv_sub hl [0] rfl)
/-! FloatBoxes$Places.ruleHolds(IIII)Z -/
abbrev rm_X4_ruleHolds : Room := { frames := 4, cells := 0, slots := 0, locals := 106 }
def f_X4_ruleHolds  (x0 : Int32) (x1 : Int32) (x2 : Int32) (x3 : Int32) : Option (Int32) :=
  if x0 = 0 then
    o_b1 (f_X1_sum x1 x2) (fun (r38 : Int32) =>
    if r38 = x3 then
      some 1
    else
      some 0)
  else
  if x0 = 1 then
    o_b1 (f_X1_product x1 x2) (fun (r53 : Int32) =>
    if r53 = x3 then
      some 1
    else
      some 0)
  else
  if x0 = 2 then
    if (o_max x1 x2) = x3 then
      some 1
    else
      some 0
  else
  if x0 = 3 then
    o_b1 (f_X4_rank x1) (fun (r82 : Int32) =>
    o_b1 (f_X4_rank x2) (fun (r86 : Int32) =>
    if r86 ≤ r82 then
      some 0
    else
      some 1))
  else
  if x0 = 4 then
    o_b1 (f_X4_rank x1) (fun (r99 : Int32) =>
    o_b1 (f_X4_rank x2) (fun (r103 : Int32) =>
    if r99 = r103 then
      some 1
    else
      some 0))
  else
  if x2 = (((-1)) - x1) then
    some 1
  else
    some 0
set_option maxHeartbeats 4000000 in
set_option maxRecDepth 100000 in
theorem w_X4_ruleHolds_B0 {p : Program} {l : Launch} {e : Env} {s : State} {m : MethodId} {args : Array Value} {below : List Frame} {meth : Method} {c : Code} {r : Int32} (C0 : g_cx cX4_ruleHolds (some .boolean) 4 RX4 wsX4_ruleHolds p s m args meth c) : ∀ (x0 : Int32) (x1 : Int32) (x2 : Int32) (x3 : Int32) (ls : Array Slot), f_X4_ruleHolds x0 x1 x2 x3 = some r → lv_has ls 4 [(0, .int x0), (1, .int x1), (2, .int x2), (3, .int x3)] → W p l e rm_X4_ruleHolds s m args below meth c s.heap [] 0 0 (MQ below (g_SI r) args s 0 0 (fun _ => False)) (F0 m 0 ls []) := by
  obtain ⟨hx, hb, hr, hml, hown, hts, hlocks⟩ := id C0
  intro x0 x1 x2 x3 ls hf hl
  unfold f_X4_ruleHolds at hf
  refine lv_iload_n hx hb dX4_ruleHolds_0 rfl (lv_at hl 0 rfl) ?_
  by_cases c1_0 : x0 = 0
  · replace hf := o_t c1_0 hf
    refine lv_tableIn (off := 35) (tgt := 36) hx hb dX4_ruleHolds_1 (by rw [o_sw (a := 0) rfl c1_0]; decide) (by rw [o_sw (a := 0) rfl c1_0]; decide) (by rw [o_sw (a := 0) rfl c1_0]; rfl) (by decide) ?_
    refine lv_iload_n hx hb dX4_ruleHolds_36 rfl (lv_at hl 1 rfl) ?_
    refine lv_iload_n hx hb dX4_ruleHolds_37 rfl (lv_at hl 2 rfl) ?_
    obtain ⟨r38, hg38, hf⟩ := o_b1_go hf
    refine g_callSi (rest := []) ⟨hx, hb, hml, hown, hts⟩ (c_X1_sum l hg38) (va_cwS 2 hts gX4_ruleHolds_X1_sum rfl rfl rfl (by decide +kernel) ⟨Nat.le_of_ble_eq_true rfl, Nat.le_of_ble_eq_true rfl⟩) rfl hl.1 rfl (Nat.le_of_ble_eq_true rfl) dX4_ruleHolds_38 ?_
    refine lv_iload_n hx hb dX4_ruleHolds_41 rfl (lv_at hl 3 rfl) ?_
    refine lv_icmp_ne (tgt := 49) hx hb dX4_ruleHolds_42 (by decide) (fun c42 => ?_) (fun c42 => ?_)
    · replace hf := o_f c42 hf
      refine lv_iconst (v := 0) hx hb dX4_ruleHolds_49 (by decide) ?_
      have q0 := Option.some.inj hf
      subst q0
      exact g_szret hx hb hr hlocks (by decide) dX4_ruleHolds_50
    · replace hf := o_t c42 hf
      refine lv_iconst (v := 1) hx hb dX4_ruleHolds_45 (by decide) ?_
      refine lv_goto (tgt := 50) hx hb dX4_ruleHolds_46 (by decide) ?_
      have q0 := Option.some.inj hf
      subst q0
      exact g_szret hx hb hr hlocks (by decide) dX4_ruleHolds_50
  replace hf := o_f c1_0 hf
  by_cases c1_1 : x0 = 1
  · replace hf := o_t c1_1 hf
    refine lv_tableIn (off := 50) (tgt := 51) hx hb dX4_ruleHolds_1 (by rw [o_sw (a := 1) rfl c1_1]; decide) (by rw [o_sw (a := 1) rfl c1_1]; decide) (by rw [o_sw (a := 1) rfl c1_1]; rfl) (by decide) ?_
    refine lv_iload_n hx hb dX4_ruleHolds_51 rfl (lv_at hl 1 rfl) ?_
    refine lv_iload_n hx hb dX4_ruleHolds_52 rfl (lv_at hl 2 rfl) ?_
    obtain ⟨r53, hg53, hf⟩ := o_b1_go hf
    refine g_callSi (rest := []) ⟨hx, hb, hml, hown, hts⟩ (c_X1_product l hg53) (va_cwS 2 hts gX4_ruleHolds_X1_product rfl rfl rfl (by decide +kernel) ⟨Nat.le_of_ble_eq_true rfl, Nat.le_of_ble_eq_true rfl⟩) rfl hl.1 rfl (Nat.le_of_ble_eq_true rfl) dX4_ruleHolds_53 ?_
    refine lv_iload_n hx hb dX4_ruleHolds_56 rfl (lv_at hl 3 rfl) ?_
    refine lv_icmp_ne (tgt := 64) hx hb dX4_ruleHolds_57 (by decide) (fun c57 => ?_) (fun c57 => ?_)
    · replace hf := o_f c57 hf
      refine lv_iconst (v := 0) hx hb dX4_ruleHolds_64 (by decide) ?_
      have q0 := Option.some.inj hf
      subst q0
      exact g_szret hx hb hr hlocks (by decide) dX4_ruleHolds_65
    · replace hf := o_t c57 hf
      refine lv_iconst (v := 1) hx hb dX4_ruleHolds_60 (by decide) ?_
      refine lv_goto (tgt := 65) hx hb dX4_ruleHolds_61 (by decide) ?_
      have q0 := Option.some.inj hf
      subst q0
      exact g_szret hx hb hr hlocks (by decide) dX4_ruleHolds_65
  replace hf := o_f c1_1 hf
  by_cases c1_2 : x0 = 2
  · replace hf := o_t c1_2 hf
    refine lv_tableIn (off := 65) (tgt := 66) hx hb dX4_ruleHolds_1 (by rw [o_sw (a := 2) rfl c1_2]; decide) (by rw [o_sw (a := 2) rfl c1_2]; decide) (by rw [o_sw (a := 2) rfl c1_2]; rfl) (by decide) ?_
    refine lv_iload_n hx hb dX4_ruleHolds_66 rfl (lv_at hl 1 rfl) ?_
    refine lv_iload_n hx hb dX4_ruleHolds_67 rfl (lv_at hl 2 rfl) ?_
    refine va_mmax hx hb (by rw [hml]; exact hl.1.symm) hown (hts (.methodLink RX4 26 Lib.Math.max.name) (List.mem_cons_of_mem _ (List.mem_append_left _ (List.mem_of_getElem? (i := 0) rfl)))) (hts (.static Lib.Math.max.name) (List.mem_cons_of_mem _ (List.mem_append_left _ (List.mem_of_getElem? (i := 1) rfl)))) (hts (.initialized "java/lang/Math") (List.mem_cons_of_mem _ (List.mem_append_left _ (List.mem_of_getElem? (i := 2) rfl)))) (hts (.code Lib.Math.max.name Lib.Math.max.code 2 (some .int)) (List.mem_cons_of_mem _ (List.mem_append_left _ (List.mem_of_getElem? (i := 3) rfl)))) (Nat.le_of_ble_eq_true rfl) (Nat.le_of_ble_eq_true rfl) (Nat.zero_le _) (Nat.zero_le _) dX4_ruleHolds_68 ?_
    refine lv_iload_n hx hb dX4_ruleHolds_71 rfl (lv_at hl 3 rfl) ?_
    refine lv_icmp_ne (tgt := 79) hx hb dX4_ruleHolds_72 (by decide) (fun c72 => ?_) (fun c72 => ?_)
    · replace hf := o_f c72 hf
      refine lv_iconst (v := 0) hx hb dX4_ruleHolds_79 (by decide) ?_
      have q0 := Option.some.inj hf
      subst q0
      exact g_szret hx hb hr hlocks (by decide) dX4_ruleHolds_80
    · replace hf := o_t c72 hf
      refine lv_iconst (v := 1) hx hb dX4_ruleHolds_75 (by decide) ?_
      refine lv_goto (tgt := 80) hx hb dX4_ruleHolds_76 (by decide) ?_
      have q0 := Option.some.inj hf
      subst q0
      exact g_szret hx hb hr hlocks (by decide) dX4_ruleHolds_80
  replace hf := o_f c1_2 hf
  by_cases c1_3 : x0 = 3
  · replace hf := o_t c1_3 hf
    refine lv_tableIn (off := 80) (tgt := 81) hx hb dX4_ruleHolds_1 (by rw [o_sw (a := 3) rfl c1_3]; decide) (by rw [o_sw (a := 3) rfl c1_3]; decide) (by rw [o_sw (a := 3) rfl c1_3]; rfl) (by decide) ?_
    refine lv_iload_n hx hb dX4_ruleHolds_81 rfl (lv_at hl 1 rfl) ?_
    obtain ⟨r82, hg82, hf⟩ := o_b1_go hf
    refine g_callSi (rest := []) ⟨hx, hb, hml, hown, hts⟩ (c_X4_rank l hg82) (va_cwS 1 hts gX4_ruleHolds_X4_rank rfl rfl rfl (by decide +kernel) ⟨Nat.le_of_ble_eq_true rfl, Nat.le_of_ble_eq_true rfl⟩) rfl hl.1 rfl (Nat.le_of_ble_eq_true rfl) dX4_ruleHolds_82 ?_
    refine lv_iload_n hx hb dX4_ruleHolds_85 rfl (lv_at hl 2 rfl) ?_
    obtain ⟨r86, hg86, hf⟩ := o_b1_go hf
    refine g_callSi (rest := [.int r82]) ⟨hx, hb, hml, hown, hts⟩ (c_X4_rank l hg86) (va_cwS 1 hts gX4_ruleHolds_X4_rank rfl rfl rfl (by decide +kernel) ⟨Nat.le_of_ble_eq_true rfl, Nat.le_of_ble_eq_true rfl⟩) rfl hl.1 rfl (Nat.le_of_ble_eq_true rfl) dX4_ruleHolds_86 ?_
    refine lv_icmp_ge (tgt := 96) hx hb dX4_ruleHolds_89 (by decide) (fun c89 => ?_) (fun c89 => ?_)
    · replace hf := o_t c89 hf
      refine lv_iconst (v := 0) hx hb dX4_ruleHolds_96 (by decide) ?_
      have q0 := Option.some.inj hf
      subst q0
      exact g_szret hx hb hr hlocks (by decide) dX4_ruleHolds_97
    · replace hf := o_f c89 hf
      refine lv_iconst (v := 1) hx hb dX4_ruleHolds_92 (by decide) ?_
      refine lv_goto (tgt := 97) hx hb dX4_ruleHolds_93 (by decide) ?_
      have q0 := Option.some.inj hf
      subst q0
      exact g_szret hx hb hr hlocks (by decide) dX4_ruleHolds_97
  replace hf := o_f c1_3 hf
  by_cases c1_4 : x0 = 4
  · replace hf := o_t c1_4 hf
    refine lv_tableIn (off := 97) (tgt := 98) hx hb dX4_ruleHolds_1 (by rw [o_sw (a := 4) rfl c1_4]; decide) (by rw [o_sw (a := 4) rfl c1_4]; decide) (by rw [o_sw (a := 4) rfl c1_4]; rfl) (by decide) ?_
    refine lv_iload_n hx hb dX4_ruleHolds_98 rfl (lv_at hl 1 rfl) ?_
    obtain ⟨r99, hg99, hf⟩ := o_b1_go hf
    refine g_callSi (rest := []) ⟨hx, hb, hml, hown, hts⟩ (c_X4_rank l hg99) (va_cwS 1 hts gX4_ruleHolds_X4_rank rfl rfl rfl (by decide +kernel) ⟨Nat.le_of_ble_eq_true rfl, Nat.le_of_ble_eq_true rfl⟩) rfl hl.1 rfl (Nat.le_of_ble_eq_true rfl) dX4_ruleHolds_99 ?_
    refine lv_iload_n hx hb dX4_ruleHolds_102 rfl (lv_at hl 2 rfl) ?_
    obtain ⟨r103, hg103, hf⟩ := o_b1_go hf
    refine g_callSi (rest := [.int r99]) ⟨hx, hb, hml, hown, hts⟩ (c_X4_rank l hg103) (va_cwS 1 hts gX4_ruleHolds_X4_rank rfl rfl rfl (by decide +kernel) ⟨Nat.le_of_ble_eq_true rfl, Nat.le_of_ble_eq_true rfl⟩) rfl hl.1 rfl (Nat.le_of_ble_eq_true rfl) dX4_ruleHolds_103 ?_
    refine lv_icmp_ne (tgt := 113) hx hb dX4_ruleHolds_106 (by decide) (fun c106 => ?_) (fun c106 => ?_)
    · replace hf := o_f c106 hf
      refine lv_iconst (v := 0) hx hb dX4_ruleHolds_113 (by decide) ?_
      have q0 := Option.some.inj hf
      subst q0
      exact g_szret hx hb hr hlocks (by decide) dX4_ruleHolds_114
    · replace hf := o_t c106 hf
      refine lv_iconst (v := 1) hx hb dX4_ruleHolds_109 (by decide) ?_
      refine lv_goto (tgt := 114) hx hb dX4_ruleHolds_110 (by decide) ?_
      have q0 := Option.some.inj hf
      subst q0
      exact g_szret hx hb hr hlocks (by decide) dX4_ruleHolds_114
  replace hf := o_f c1_4 hf
  refine lv_tableOut (tgt := 115) hx hb dX4_ruleHolds_1 (by have n0 := lv_neT (a := 0) c1_0 rfl; have n1 := lv_neT (a := 1) c1_1 rfl; have n2 := lv_neT (a := 2) c1_2 rfl; have n3 := lv_neT (a := 3) c1_3 rfl; have n4 := lv_neT (a := 4) c1_4 rfl; omega) (by decide) ?_
  refine lv_iload_n hx hb dX4_ruleHolds_115 rfl (lv_at hl 2 rfl) ?_
  refine lv_iconst (v := (-1)) hx hb dX4_ruleHolds_116 (by decide) ?_
  refine lv_iload_n hx hb dX4_ruleHolds_117 rfl (lv_at hl 1 rfl) ?_
  refine lv_isub hx hb dX4_ruleHolds_118 ?_
  refine lv_icmp_ne (tgt := 126) hx hb dX4_ruleHolds_119 (by decide) (fun c119 => ?_) (fun c119 => ?_)
  · replace hf := o_f c119 hf
    refine lv_iconst (v := 0) hx hb dX4_ruleHolds_126 (by decide) ?_
    have q0 := Option.some.inj hf
    subst q0
    exact g_szret hx hb hr hlocks (by decide) dX4_ruleHolds_127
  · replace hf := o_t c119 hf
    refine lv_iconst (v := 1) hx hb dX4_ruleHolds_122 (by decide) ?_
    refine lv_goto (tgt := 127) hx hb dX4_ruleHolds_123 (by decide) ?_
    have q0 := Option.some.inj hf
    subst q0
    exact g_szret hx hb hr hlocks (by decide) dX4_ruleHolds_127
set_option maxHeartbeats 4000000 in
set_option maxRecDepth 100000 in
theorem c_X4_ruleHolds (l : Launch) {x0 : Int32} {x1 : Int32} {x2 : Int32} {x3 : Int32} {r : Int32} (hf : f_X4_ruleHolds x0 x1 x2 x3 = some r) : Met l yX4_ruleHolds wsX4_ruleHolds rm_X4_ruleHolds (g_PS [.int x0, .int x1, .int x2, .int x3]) (g_SI r) 0 0 (fun _ => False) := by
  refine g_metS (cc := cX4_ruleHolds) (maxL := 4) (ret := (some .boolean)) (by decide) rfl ?_
  intro p e s m below meth c C0
  have hl := lv_entry ([.int x0, .int x1, .int x2, .int x3]) (n := 4) (Nat.le_of_ble_eq_true rfl)
  rw [lg_entry_eq]
  generalize (lg_sl ([.int x0, .int x1, .int x2, .int x3]) ++ List.replicate (4 - (lg_sl ([.int x0, .int x1, .int x2, .int x3])).length) Slot.unset).toArray = ls at hl ⊢
  have hl : lv_has ls 4 [(0, .int x0), (1, .int x1), (2, .int x2), (3, .int x3)] := hl
  exact w_X4_ruleHolds_B0 C0 x0 x1 x2 x3 ls hf (lv_sub hl [0, 1, 2, 3] rfl)
