/-! java/lang/Integer.numberOfLeadingZeros(I)I -/
abbrev rm_J6_numberOfLeadingZeros_0f7a4 : Room := { frames := 0, cells := 0, slots := 0, locals := 0 }
def f_J6_numberOfLeadingZeros_0f7a4_B73  (x0 : Int32) (x1 : Int32) : Option (Int32) :=
  some (x1 - ((x0.toUInt32 >>> ((1 : Int32).toUInt32 &&& Int32.toUInt32 31)).toInt32))
set_option maxHeartbeats 4000000 in
set_option maxRecDepth 100000 in
theorem w_J6_numberOfLeadingZeros_0f7a4_B73 {p : Program} {l : Launch} {e : Env} {s : State} {m : MethodId} {args : Array Value} {below : List Frame} {meth : Method} {c : Code} {r : Int32} (C0 : g_cx cJ6_numberOfLeadingZeros_0f7a4 (some .int) 2 RJ6 wsJ6_numberOfLeadingZeros_0f7a4 p s m args meth c) : ∀ (x0 : Int32) (x1 : Int32) (ls : Array Slot), f_J6_numberOfLeadingZeros_0f7a4_B73 x0 x1 = some r → lv_has ls 2 [(0, .int x0), (1, .int x1)] → W p l e rm_J6_numberOfLeadingZeros_0f7a4 s m args below meth c s.heap [] 0 0 (MQ below (g_SI r) args s 0 0 (fun _ => False)) (F0 m 73 ls []) := by
  obtain ⟨hx, hb, hr, hml, hown, hts, hlocks⟩ := id C0
  intro x0 x1 ls hf hl
  unfold f_J6_numberOfLeadingZeros_0f7a4_B73 at hf
  refine lv_iload_n hx hb dJ6_numberOfLeadingZeros_0f7a4_73 rfl (lv_at hl 1 rfl) ?_
  refine lv_iload_n hx hb dJ6_numberOfLeadingZeros_0f7a4_74 rfl (lv_at hl 0 rfl) ?_
  refine lv_iconst (v := 1) hx hb dJ6_numberOfLeadingZeros_0f7a4_75 (by decide) ?_
  refine lv_iushr hx hb dJ6_numberOfLeadingZeros_0f7a4_76 rfl ?_
  refine lv_isub hx hb dJ6_numberOfLeadingZeros_0f7a4_77 ?_
  have q0 := Option.some.inj hf
  subst q0
  exact g_siret hx hb hr hlocks dJ6_numberOfLeadingZeros_0f7a4_78
def f_J6_numberOfLeadingZeros_0f7a4_B61  (x0 : Int32) (x1 : Int32) : Option (Int32) :=
  if x0 < 4 then
    f_J6_numberOfLeadingZeros_0f7a4_B73 x0 x1
  else
    o_nm ((x0.toUInt32 >>> ((2 : Int32).toUInt32 &&& Int32.toUInt32 31)).toInt32) (fun (t72 : Int32) =>
    f_J6_numberOfLeadingZeros_0f7a4_B73 t72 (x1 + (-2)))
set_option maxHeartbeats 4000000 in
set_option maxRecDepth 100000 in
theorem w_J6_numberOfLeadingZeros_0f7a4_B61 {p : Program} {l : Launch} {e : Env} {s : State} {m : MethodId} {args : Array Value} {below : List Frame} {meth : Method} {c : Code} {r : Int32} (C0 : g_cx cJ6_numberOfLeadingZeros_0f7a4 (some .int) 2 RJ6 wsJ6_numberOfLeadingZeros_0f7a4 p s m args meth c) : ∀ (x0 : Int32) (x1 : Int32) (ls : Array Slot), f_J6_numberOfLeadingZeros_0f7a4_B61 x0 x1 = some r → lv_has ls 2 [(0, .int x0), (1, .int x1)] → W p l e rm_J6_numberOfLeadingZeros_0f7a4 s m args below meth c s.heap [] 0 0 (MQ below (g_SI r) args s 0 0 (fun _ => False)) (F0 m 61 ls []) := by
  obtain ⟨hx, hb, hr, hml, hown, hts, hlocks⟩ := id C0
  intro x0 x1 ls hf hl
  unfold f_J6_numberOfLeadingZeros_0f7a4_B61 at hf
  refine lv_iload_n hx hb dJ6_numberOfLeadingZeros_0f7a4_61 rfl (lv_at hl 0 rfl) ?_
  refine lv_iconst (v := 4) hx hb dJ6_numberOfLeadingZeros_0f7a4_62 (by decide) ?_
  refine lv_icmp_lt (tgt := 73) hx hb dJ6_numberOfLeadingZeros_0f7a4_63 (by decide) (fun c63 => ?_) (fun c63 => ?_)
  · replace hf := o_t c63 hf
    exact w_J6_numberOfLeadingZeros_0f7a4_B73 C0 x0 x1 ls hf (lv_sub hl [0, 1] rfl)
  · replace hf := o_f c63 hf
    refine lv_iinc (v := x1 + (-2)) (lv' := [(1, .int (x1 + (-2))), (0, .int x0)]) hx hb dJ6_numberOfLeadingZeros_0f7a4_66 hl (k := 1) rfl rfl (by decide) rfl (fun ls hl => ?_)
    refine lv_iload_n hx hb dJ6_numberOfLeadingZeros_0f7a4_69 rfl (lv_at hl 1 rfl) ?_
    refine lv_iconst (v := 2) hx hb dJ6_numberOfLeadingZeros_0f7a4_70 (by decide) ?_
    refine lv_iushr hx hb dJ6_numberOfLeadingZeros_0f7a4_71 rfl ?_
    refine lv_topi (fun t72 et72 => ?_)
    replace hf := o_nm_go et72 hf
    refine lv_istore_n (lv' := [(0, .int t72), (1, .int (x1 + (-2)))]) hx hb dJ6_numberOfLeadingZeros_0f7a4_72 rfl hl (by decide) rfl (fun ls hl => ?_)
    exact w_J6_numberOfLeadingZeros_0f7a4_B73 C0 t72 (x1 + (-2)) ls hf (lv_sub hl [0, 1] rfl)
def f_J6_numberOfLeadingZeros_0f7a4_B48  (x0 : Int32) (x1 : Int32) : Option (Int32) :=
  if x0 < 16 then
    f_J6_numberOfLeadingZeros_0f7a4_B61 x0 x1
  else
    o_nm ((x0.toUInt32 >>> ((4 : Int32).toUInt32 &&& Int32.toUInt32 31)).toInt32) (fun (t60 : Int32) =>
    f_J6_numberOfLeadingZeros_0f7a4_B61 t60 (x1 + (-4)))
set_option maxHeartbeats 4000000 in
set_option maxRecDepth 100000 in
theorem w_J6_numberOfLeadingZeros_0f7a4_B48 {p : Program} {l : Launch} {e : Env} {s : State} {m : MethodId} {args : Array Value} {below : List Frame} {meth : Method} {c : Code} {r : Int32} (C0 : g_cx cJ6_numberOfLeadingZeros_0f7a4 (some .int) 2 RJ6 wsJ6_numberOfLeadingZeros_0f7a4 p s m args meth c) : ∀ (x0 : Int32) (x1 : Int32) (ls : Array Slot), f_J6_numberOfLeadingZeros_0f7a4_B48 x0 x1 = some r → lv_has ls 2 [(0, .int x0), (1, .int x1)] → W p l e rm_J6_numberOfLeadingZeros_0f7a4 s m args below meth c s.heap [] 0 0 (MQ below (g_SI r) args s 0 0 (fun _ => False)) (F0 m 48 ls []) := by
  obtain ⟨hx, hb, hr, hml, hown, hts, hlocks⟩ := id C0
  intro x0 x1 ls hf hl
  unfold f_J6_numberOfLeadingZeros_0f7a4_B48 at hf
  refine lv_iload_n hx hb dJ6_numberOfLeadingZeros_0f7a4_48 rfl (lv_at hl 0 rfl) ?_
  refine lv_bipush (v := 16) hx hb dJ6_numberOfLeadingZeros_0f7a4_49 (by decide) ?_
  refine lv_icmp_lt (tgt := 61) hx hb dJ6_numberOfLeadingZeros_0f7a4_51 (by decide) (fun c51 => ?_) (fun c51 => ?_)
  · replace hf := o_t c51 hf
    exact w_J6_numberOfLeadingZeros_0f7a4_B61 C0 x0 x1 ls hf (lv_sub hl [0, 1] rfl)
  · replace hf := o_f c51 hf
    refine lv_iinc (v := x1 + (-4)) (lv' := [(1, .int (x1 + (-4))), (0, .int x0)]) hx hb dJ6_numberOfLeadingZeros_0f7a4_54 hl (k := 1) rfl rfl (by decide) rfl (fun ls hl => ?_)
    refine lv_iload_n hx hb dJ6_numberOfLeadingZeros_0f7a4_57 rfl (lv_at hl 1 rfl) ?_
    refine lv_iconst (v := 4) hx hb dJ6_numberOfLeadingZeros_0f7a4_58 (by decide) ?_
    refine lv_iushr hx hb dJ6_numberOfLeadingZeros_0f7a4_59 rfl ?_
    refine lv_topi (fun t60 et60 => ?_)
    replace hf := o_nm_go et60 hf
    refine lv_istore_n (lv' := [(0, .int t60), (1, .int (x1 + (-4)))]) hx hb dJ6_numberOfLeadingZeros_0f7a4_60 rfl hl (by decide) rfl (fun ls hl => ?_)
    exact w_J6_numberOfLeadingZeros_0f7a4_B61 C0 t60 (x1 + (-4)) ls hf (lv_sub hl [0, 1] rfl)
def f_J6_numberOfLeadingZeros_0f7a4_B33  (x0 : Int32) (x1 : Int32) : Option (Int32) :=
  if x0 < 256 then
    f_J6_numberOfLeadingZeros_0f7a4_B48 x0 x1
  else
    o_nm ((x0.toUInt32 >>> ((8 : Int32).toUInt32 &&& Int32.toUInt32 31)).toInt32) (fun (t47 : Int32) =>
    f_J6_numberOfLeadingZeros_0f7a4_B48 t47 (x1 + (-8)))
set_option maxHeartbeats 4000000 in
set_option maxRecDepth 100000 in
theorem w_J6_numberOfLeadingZeros_0f7a4_B33 {p : Program} {l : Launch} {e : Env} {s : State} {m : MethodId} {args : Array Value} {below : List Frame} {meth : Method} {c : Code} {r : Int32} (C0 : g_cx cJ6_numberOfLeadingZeros_0f7a4 (some .int) 2 RJ6 wsJ6_numberOfLeadingZeros_0f7a4 p s m args meth c) : ∀ (x0 : Int32) (x1 : Int32) (ls : Array Slot), f_J6_numberOfLeadingZeros_0f7a4_B33 x0 x1 = some r → lv_has ls 2 [(0, .int x0), (1, .int x1)] → W p l e rm_J6_numberOfLeadingZeros_0f7a4 s m args below meth c s.heap [] 0 0 (MQ below (g_SI r) args s 0 0 (fun _ => False)) (F0 m 33 ls []) := by
  obtain ⟨hx, hb, hr, hml, hown, hts, hlocks⟩ := id C0
  intro x0 x1 ls hf hl
  unfold f_J6_numberOfLeadingZeros_0f7a4_B33 at hf
  refine lv_iload_n hx hb dJ6_numberOfLeadingZeros_0f7a4_33 rfl (lv_at hl 0 rfl) ?_
  refine lv_sipush (v := 256) hx hb dJ6_numberOfLeadingZeros_0f7a4_34 (by decide) ?_
  refine lv_icmp_lt (tgt := 48) hx hb dJ6_numberOfLeadingZeros_0f7a4_37 (by decide) (fun c37 => ?_) (fun c37 => ?_)
  · replace hf := o_t c37 hf
    exact w_J6_numberOfLeadingZeros_0f7a4_B48 C0 x0 x1 ls hf (lv_sub hl [0, 1] rfl)
  · replace hf := o_f c37 hf
    refine lv_iinc (v := x1 + (-8)) (lv' := [(1, .int (x1 + (-8))), (0, .int x0)]) hx hb dJ6_numberOfLeadingZeros_0f7a4_40 hl (k := 1) rfl rfl (by decide) rfl (fun ls hl => ?_)
    refine lv_iload_n hx hb dJ6_numberOfLeadingZeros_0f7a4_43 rfl (lv_at hl 1 rfl) ?_
    refine lv_bipush (v := 8) hx hb dJ6_numberOfLeadingZeros_0f7a4_44 (by decide) ?_
    refine lv_iushr hx hb dJ6_numberOfLeadingZeros_0f7a4_46 rfl ?_
    refine lv_topi (fun t47 et47 => ?_)
    replace hf := o_nm_go et47 hf
    refine lv_istore_n (lv' := [(0, .int t47), (1, .int (x1 + (-8)))]) hx hb dJ6_numberOfLeadingZeros_0f7a4_47 rfl hl (by decide) rfl (fun ls hl => ?_)
    exact w_J6_numberOfLeadingZeros_0f7a4_B48 C0 t47 (x1 + (-8)) ls hf (lv_sub hl [0, 1] rfl)
def f_J6_numberOfLeadingZeros_0f7a4  (x0 : Int32) : Option (Int32) :=
  if 0 < x0 then
    if x0 < 65536 then
      f_J6_numberOfLeadingZeros_0f7a4_B33 x0 31
    else
      o_nm ((x0.toUInt32 >>> ((16 : Int32).toUInt32 &&& Int32.toUInt32 31)).toInt32) (fun (t32 : Int32) =>
      f_J6_numberOfLeadingZeros_0f7a4_B33 t32 (31 + (-16)))
  else
    if x0 = 0 then
      some 32
    else
      some 0
set_option maxHeartbeats 4000000 in
set_option maxRecDepth 100000 in
theorem w_J6_numberOfLeadingZeros_0f7a4_B0 {p : Program} {l : Launch} {e : Env} {s : State} {m : MethodId} {args : Array Value} {below : List Frame} {meth : Method} {c : Code} {r : Int32} (C0 : g_cx cJ6_numberOfLeadingZeros_0f7a4 (some .int) 2 RJ6 wsJ6_numberOfLeadingZeros_0f7a4 p s m args meth c) : ∀ (x0 : Int32) (ls : Array Slot), f_J6_numberOfLeadingZeros_0f7a4 x0 = some r → lv_has ls 2 [(0, .int x0)] → W p l e rm_J6_numberOfLeadingZeros_0f7a4 s m args below meth c s.heap [] 0 0 (MQ below (g_SI r) args s 0 0 (fun _ => False)) (F0 m 0 ls []) := by
  obtain ⟨hx, hb, hr, hml, hown, hts, hlocks⟩ := id C0
  intro x0 ls hf hl
  unfold f_J6_numberOfLeadingZeros_0f7a4 at hf
  refine lv_iload_n hx hb dJ6_numberOfLeadingZeros_0f7a4_0 rfl (lv_at hl 0 rfl) ?_
  refine lv_if_gt (tgt := 15) hx hb dJ6_numberOfLeadingZeros_0f7a4_1 (by decide) (fun c1 => ?_) (fun c1 => ?_)
  · replace hf := o_t c1 hf
    refine lv_bipush (v := 31) hx hb dJ6_numberOfLeadingZeros_0f7a4_15 (by decide) ?_
    refine lv_istore_n (lv' := [(1, .int 31), (0, .int x0)]) hx hb dJ6_numberOfLeadingZeros_0f7a4_17 rfl hl (by decide) rfl (fun ls hl => ?_)
    refine lv_iload_n hx hb dJ6_numberOfLeadingZeros_0f7a4_18 rfl (lv_at hl 1 rfl) ?_
    refine lv_ldcw (v := 65536) hx hb hown (hts (.constant RJ6 264 (65536)) (List.mem_cons_of_mem _ (List.mem_of_getElem? (i := 0) rfl))) dJ6_numberOfLeadingZeros_0f7a4_19 ?_
    refine lv_icmp_lt (tgt := 33) hx hb dJ6_numberOfLeadingZeros_0f7a4_22 (by decide) (fun c22 => ?_) (fun c22 => ?_)
    · replace hf := o_t c22 hf
      exact w_J6_numberOfLeadingZeros_0f7a4_B33 C0 x0 31 ls hf (lv_sub hl [1, 0] rfl)
    · replace hf := o_f c22 hf
      refine lv_iinc (v := 31 + (-16)) (lv' := [(1, .int (31 + (-16))), (0, .int x0)]) hx hb dJ6_numberOfLeadingZeros_0f7a4_25 hl (k := 0) rfl rfl (by decide) rfl (fun ls hl => ?_)
      refine lv_iload_n hx hb dJ6_numberOfLeadingZeros_0f7a4_28 rfl (lv_at hl 1 rfl) ?_
      refine lv_bipush (v := 16) hx hb dJ6_numberOfLeadingZeros_0f7a4_29 (by decide) ?_
      refine lv_iushr hx hb dJ6_numberOfLeadingZeros_0f7a4_31 rfl ?_
      refine lv_topi (fun t32 et32 => ?_)
      replace hf := o_nm_go et32 hf
      refine lv_istore_n (lv' := [(0, .int t32), (1, .int (31 + (-16)))]) hx hb dJ6_numberOfLeadingZeros_0f7a4_32 rfl hl (by decide) rfl (fun ls hl => ?_)
      exact w_J6_numberOfLeadingZeros_0f7a4_B33 C0 t32 (31 + (-16)) ls hf (lv_sub hl [0, 1] rfl)
  · replace hf := o_f c1 hf
    refine lv_iload_n hx hb dJ6_numberOfLeadingZeros_0f7a4_4 rfl (lv_at hl 0 rfl) ?_
    refine lv_if_ne (tgt := 13) hx hb dJ6_numberOfLeadingZeros_0f7a4_5 (by decide) (fun c5 => ?_) (fun c5 => ?_)
    · replace hf := o_f c5 hf
      refine lv_iconst (v := 0) hx hb dJ6_numberOfLeadingZeros_0f7a4_13 (by decide) ?_
      have q0 := Option.some.inj hf
      subst q0
      exact g_siret hx hb hr hlocks dJ6_numberOfLeadingZeros_0f7a4_14
    · replace hf := o_t c5 hf
      refine lv_bipush (v := 32) hx hb dJ6_numberOfLeadingZeros_0f7a4_8 (by decide) ?_
      refine lv_goto (tgt := 14) hx hb dJ6_numberOfLeadingZeros_0f7a4_10 (by decide) ?_
      have q0 := Option.some.inj hf
      subst q0
      exact g_siret hx hb hr hlocks dJ6_numberOfLeadingZeros_0f7a4_14
set_option maxHeartbeats 4000000 in
set_option maxRecDepth 100000 in
theorem c_J6_numberOfLeadingZeros_0f7a4 (l : Launch) {x0 : Int32} {r : Int32} (hf : f_J6_numberOfLeadingZeros_0f7a4 x0 = some r) : Met l yJ6_numberOfLeadingZeros_0f7a4 wsJ6_numberOfLeadingZeros_0f7a4 rm_J6_numberOfLeadingZeros_0f7a4 (g_PS [.int x0]) (g_SI r) 0 0 (fun _ => False) := by
  refine g_metS (cc := cJ6_numberOfLeadingZeros_0f7a4) (maxL := 2) (ret := (some .int)) (by decide) rfl ?_
  intro p e s m below meth c C0
  have hl := lv_entry ([.int x0]) (n := 2) (Nat.le_of_ble_eq_true rfl)
  rw [lg_entry_eq]
  generalize (lg_sl ([.int x0]) ++ List.replicate (2 - (lg_sl ([.int x0])).length) Slot.unset).toArray = ls at hl ⊢
  have hl : lv_has ls 2 [(0, .int x0)] := hl
  exact w_J6_numberOfLeadingZeros_0f7a4_B0 C0 x0 ls hf (lv_sub hl [0] rfl)
/-! java/lang/Long.numberOfLeadingZeros(J)I -/
abbrev rm_J13_numberOfLeadingZeros_95d88 : Room := { frames := 1, cells := 0, slots := 0, locals := 21 }
def f_J13_numberOfLeadingZeros_95d88  (x0 : Int64) : Option (Int32) :=
  o_nm (((x0.toUInt64 >>> ((32 : Int32).toInt64.toUInt64 &&& Int64.toUInt64 63)).toInt64).toInt32) (fun (t5 : Int32) =>
  if t5 = 0 then
    o_b1 (f_J6_numberOfLeadingZeros_0f7a4 x0.toInt32) (fun (r14 : Int32) =>
    some (32 + r14))
  else
    o_b1 (f_J6_numberOfLeadingZeros_0f7a4 t5) (fun (r22 : Int32) =>
    some r22))
set_option maxHeartbeats 4000000 in
set_option maxRecDepth 100000 in
theorem w_J13_numberOfLeadingZeros_95d88_B0 {p : Program} {l : Launch} {e : Env} {s : State} {m : MethodId} {args : Array Value} {below : List Frame} {meth : Method} {c : Code} {r : Int32} (C0 : g_cx cJ13_numberOfLeadingZeros_95d88 (some .int) 3 RJ13 wsJ13_numberOfLeadingZeros_95d88 p s m args meth c) : ∀ (x0 : Int64) (ls : Array Slot), f_J13_numberOfLeadingZeros_95d88 x0 = some r → lv_has ls 3 [(0, .long x0)] → W p l e rm_J13_numberOfLeadingZeros_95d88 s m args below meth c s.heap [] 0 0 (MQ below (g_SI r) args s 0 0 (fun _ => False)) (F0 m 0 ls []) := by
  obtain ⟨hx, hb, hr, hml, hown, hts, hlocks⟩ := id C0
  intro x0 ls hf hl
  unfold f_J13_numberOfLeadingZeros_95d88 at hf
  refine lv_lload_n hx hb dJ13_numberOfLeadingZeros_95d88_0 rfl (lv_at hl 0 rfl) ?_
  refine lv_bipush (v := 32) hx hb dJ13_numberOfLeadingZeros_95d88_1 (by decide) ?_
  refine lv_lushr hx hb dJ13_numberOfLeadingZeros_95d88_3 rfl ?_
  refine lv_l2i hx hb dJ13_numberOfLeadingZeros_95d88_4 rfl ?_
  refine lv_topi (fun t5 et5 => ?_)
  replace hf := o_nm_go et5 hf
  refine lv_istore_n (lv' := [(2, .int t5), (0, .long x0)]) hx hb dJ13_numberOfLeadingZeros_95d88_5 rfl hl (by decide) rfl (fun ls hl => ?_)
  refine lv_iload_n hx hb dJ13_numberOfLeadingZeros_95d88_6 rfl (lv_at hl 0 rfl) ?_
  refine lv_if_ne (tgt := 21) hx hb dJ13_numberOfLeadingZeros_95d88_7 (by decide) (fun c7 => ?_) (fun c7 => ?_)
  · replace hf := o_f c7 hf
    refine lv_iload_n hx hb dJ13_numberOfLeadingZeros_95d88_21 rfl (lv_at hl 0 rfl) ?_
    obtain ⟨r22, hg22, hf⟩ := o_b1_go hf
    refine g_callSi (rest := []) ⟨hx, hb, hml, hown, hts⟩ (c_J6_numberOfLeadingZeros_0f7a4 l hg22) (va_cwS 1 hts gJ13_numberOfLeadingZeros_95d88_J6_numberOfLeadingZeros_0f7a4 rfl rfl rfl (by decide +kernel) ⟨Nat.le_of_ble_eq_true rfl, Nat.le_of_ble_eq_true rfl⟩) rfl hl.1 rfl (Nat.le_of_ble_eq_true rfl) dJ13_numberOfLeadingZeros_95d88_22 ?_
    have q0 := Option.some.inj hf
    subst q0
    exact g_siret hx hb hr hlocks dJ13_numberOfLeadingZeros_95d88_25
  · replace hf := o_t c7 hf
    refine lv_bipush (v := 32) hx hb dJ13_numberOfLeadingZeros_95d88_10 (by decide) ?_
    refine lv_lload_n hx hb dJ13_numberOfLeadingZeros_95d88_12 rfl (lv_at hl 1 rfl) ?_
    refine lv_l2i hx hb dJ13_numberOfLeadingZeros_95d88_13 rfl ?_
    obtain ⟨r14, hg14, hf⟩ := o_b1_go hf
    refine g_callSi (rest := [.int 32]) ⟨hx, hb, hml, hown, hts⟩ (c_J6_numberOfLeadingZeros_0f7a4 l hg14) (va_cwS 1 hts gJ13_numberOfLeadingZeros_95d88_J6_numberOfLeadingZeros_0f7a4 rfl rfl rfl (by decide +kernel) ⟨Nat.le_of_ble_eq_true rfl, Nat.le_of_ble_eq_true rfl⟩) rfl hl.1 rfl (Nat.le_of_ble_eq_true rfl) dJ13_numberOfLeadingZeros_95d88_14 ?_
    refine lv_iadd hx hb dJ13_numberOfLeadingZeros_95d88_17 ?_
    refine lv_goto (tgt := 25) hx hb dJ13_numberOfLeadingZeros_95d88_18 (by decide) ?_
    have q0 := Option.some.inj hf
    subst q0
    exact g_siret hx hb hr hlocks dJ13_numberOfLeadingZeros_95d88_25
set_option maxHeartbeats 4000000 in
set_option maxRecDepth 100000 in
theorem c_J13_numberOfLeadingZeros_95d88 (l : Launch) {x0 : Int64} {r : Int32} (hf : f_J13_numberOfLeadingZeros_95d88 x0 = some r) : Met l yJ13_numberOfLeadingZeros_95d88 wsJ13_numberOfLeadingZeros_95d88 rm_J13_numberOfLeadingZeros_95d88 (g_PS [.long x0]) (g_SI r) 0 0 (fun _ => False) := by
  refine g_metS (cc := cJ13_numberOfLeadingZeros_95d88) (maxL := 3) (ret := (some .int)) (by decide) rfl ?_
  intro p e s m below meth c C0
  have hl := lv_entry ([.long x0]) (n := 3) (Nat.le_of_ble_eq_true rfl)
  rw [lg_entry_eq]
  generalize (lg_sl ([.long x0]) ++ List.replicate (3 - (lg_sl ([.long x0])).length) Slot.unset).toArray = ls at hl ⊢
  have hl : lv_has ls 3 [(0, .long x0)] := hl
  exact w_J13_numberOfLeadingZeros_95d88_B0 C0 x0 ls hf (lv_sub hl [0] rfl)
/-! FloatBoxes$Floats.rounded(ZJI)I -/
abbrev rm_X1_rounded : Room := { frames := 2, cells := 0, slots := 0, locals := 43 }
def f_X1_rounded_B122  (x0 : Int32) (x4 : Int32) : Option (Int32) :=
  if x0 = 0 then
    some x4
  else
    some (((-1)) - x4)
set_option maxHeartbeats 4000000 in
set_option maxRecDepth 100000 in
theorem w_X1_rounded_B122 {p : Program} {l : Launch} {e : Env} {s : State} {m : MethodId} {args : Array Value} {below : List Frame} {meth : Method} {c : Code} {r : Int32} (C0 : g_cx cX1_rounded (some .int) 12 RX1 wsX1_rounded p s m args meth c) : ∀ (x0 : Int32) (x4 : Int32) (ls : Array Slot), f_X1_rounded_B122 x0 x4 = some r → lv_has ls 12 [(0, .int x0), (4, .int x4)] → W p l e rm_X1_rounded s m args below meth c s.heap [] 0 0 (MQ below (g_SI r) args s 0 0 (fun _ => False)) (F0 m 122 ls []) := by
  obtain ⟨hx, hb, hr, hml, hown, hts, hlocks⟩ := id C0
  intro x0 x4 ls hf hl
  unfold f_X1_rounded_B122 at hf
  refine lv_iload_n hx hb dX1_rounded_122 rfl (lv_at hl 0 rfl) ?_
  refine lv_if_eq (tgt := 133) hx hb dX1_rounded_123 (by decide) (fun c123 => ?_) (fun c123 => ?_)
  · replace hf := o_t c123 hf
    refine lv_iload hx hb dX1_rounded_133 (lv_at hl 1 rfl) ?_
    have q0 := Option.some.inj hf
    subst q0
    exact g_siret hx hb hr hlocks dX1_rounded_135
  · replace hf := o_f c123 hf
    refine lv_iconst (v := (-1)) hx hb dX1_rounded_126 (by decide) ?_
    refine lv_iload hx hb dX1_rounded_127 (lv_at hl 1 rfl) ?_
    refine lv_isub hx hb dX1_rounded_129 ?_
    refine lv_goto (tgt := 135) hx hb dX1_rounded_130 (by decide) ?_
    have q0 := Option.some.inj hf
    subst q0
    exact g_siret hx hb hr hlocks dX1_rounded_135
def f_X1_rounded  (x0 : Int32) (x1 : Int64) (x3 : Int32) : Option (Int32) :=
  if (lg_cmp x1 0) = 0 then
    f_X1_rounded_B122 x0 0
  else
    o_b1 (f_J13_numberOfLeadingZeros_95d88 x1) (fun (r12 : Int32) =>
    o_nm (64 - r12) (fun (t16 : Int32) =>
    o_nm (o_max ((x3 + t16) - 24) 1) (fun (t29 : Int32) =>
    o_nm (t29 - x3) (fun (t35 : Int32) =>
    if t29 ≤ 254 then
      if 0 < t35 then
        if 63 ≤ t35 then
          f_X1_rounded_B122 x0 0
        else
          o_nm ((x1 >>> (t35.toInt64 &&& 63)) &&& 1) (fun (t89 : Int64) =>
          o_nm ((((x1 + ((1 : Int64) <<< ((t35 - 1).toInt64 &&& 63))) - 1) + t89) >>> (t35.toInt64 &&& 63)) (fun (t107 : Int64) =>
          o_nm (((t29 - 1) <<< ((23 : Int32) &&& 31)) + t107.toInt32) (fun (t120 : Int32) =>
          f_X1_rounded_B122 x0 t120)))
      else
        o_nm (((t29 - 1) <<< ((23 : Int32) &&& 31)) + ((x1 <<< ((-t35).toInt64 &&& 63)).toInt32)) (fun (t71 : Int32) =>
        f_X1_rounded_B122 x0 t71)
    else
      f_X1_rounded_B122 x0 2139095040))))
set_option maxHeartbeats 4000000 in
set_option maxRecDepth 100000 in
theorem w_X1_rounded_B0 {p : Program} {l : Launch} {e : Env} {s : State} {m : MethodId} {args : Array Value} {below : List Frame} {meth : Method} {c : Code} {r : Int32} (C0 : g_cx cX1_rounded (some .int) 12 RX1 wsX1_rounded p s m args meth c) : ∀ (x0 : Int32) (x1 : Int64) (x3 : Int32) (ls : Array Slot), f_X1_rounded x0 x1 x3 = some r → lv_has ls 12 [(0, .int x0), (1, .long x1), (3, .int x3)] → W p l e rm_X1_rounded s m args below meth c s.heap [] 0 0 (MQ below (g_SI r) args s 0 0 (fun _ => False)) (F0 m 0 ls []) := by
  obtain ⟨hx, hb, hr, hml, hown, hts, hlocks⟩ := id C0
  intro x0 x1 x3 ls hf hl
  unfold f_X1_rounded at hf
  refine lv_iconst (v := 0) hx hb dX1_rounded_0 (by decide) ?_
  refine lv_istore (lv' := [(4, .int 0), (0, .int x0), (1, .long x1), (3, .int x3)]) hx hb dX1_rounded_1 hl (by decide) rfl (fun ls hl => ?_)
  refine lv_lload_n hx hb dX1_rounded_3 rfl (lv_at hl 2 rfl) ?_
  refine lv_lconst (v := 0) hx hb dX1_rounded_4 (by decide) ?_
  refine W.lcmp hx hb dX1_rounded_5 ?_
  refine lv_if_eq (tgt := 122) hx hb dX1_rounded_6 (by decide) (fun c6 => ?_) (fun c6 => ?_)
  · replace hf := o_t c6 hf
    exact w_X1_rounded_B122 C0 x0 0 ls hf (lv_sub hl [1, 0] rfl)
  · replace hf := o_f c6 hf
    refine lv_bipush (v := 64) hx hb dX1_rounded_9 (by decide) ?_
    refine lv_lload_n hx hb dX1_rounded_11 rfl (lv_at hl 2 rfl) ?_
    obtain ⟨r12, hg12, hf⟩ := o_b1_go hf
    refine g_callSi (rest := [.int 64]) ⟨hx, hb, hml, hown, hts⟩ (c_J13_numberOfLeadingZeros_95d88 l hg12) (va_cwS 1 hts gX1_rounded_J13_numberOfLeadingZeros_95d88 rfl rfl rfl (by decide +kernel) ⟨Nat.le_of_ble_eq_true rfl, Nat.le_of_ble_eq_true rfl⟩) rfl hl.1 rfl (Nat.le_of_ble_eq_true rfl) dX1_rounded_12 ?_
    refine lv_isub hx hb dX1_rounded_15 ?_
    refine lv_topi (fun t16 et16 => ?_)
    replace hf := o_nm_go et16 hf
    refine lv_istore (lv' := [(5, .int t16), (4, .int 0), (0, .int x0), (1, .long x1), (3, .int x3)]) hx hb dX1_rounded_16 hl (by decide) rfl (fun ls hl => ?_)
    refine lv_iload_n hx hb dX1_rounded_18 rfl (lv_at hl 4 rfl) ?_
    refine lv_iload hx hb dX1_rounded_19 (lv_at hl 0 rfl) ?_
    refine lv_iadd hx hb dX1_rounded_21 ?_
    refine lv_bipush (v := 24) hx hb dX1_rounded_22 (by decide) ?_
    refine lv_isub hx hb dX1_rounded_24 ?_
    refine lv_iconst (v := 1) hx hb dX1_rounded_25 (by decide) ?_
    refine va_mmax hx hb (by rw [hml]; exact hl.1.symm) hown (hts (.methodLink RX1 28 Lib.Math.max.name) (List.mem_cons_of_mem _ (List.mem_of_getElem? (i := 0) rfl))) (hts (.static Lib.Math.max.name) (List.mem_cons_of_mem _ (List.mem_of_getElem? (i := 1) rfl))) (hts (.initialized "java/lang/Math") (List.mem_cons_of_mem _ (List.mem_of_getElem? (i := 2) rfl))) (hts (.code Lib.Math.max.name Lib.Math.max.code 2 (some .int)) (List.mem_cons_of_mem _ (List.mem_of_getElem? (i := 3) rfl))) (Nat.le_of_ble_eq_true rfl) (Nat.le_of_ble_eq_true rfl) (Nat.zero_le _) (Nat.zero_le _) dX1_rounded_26 ?_
    refine lv_topi (fun t29 et29 => ?_)
    replace hf := o_nm_go et29 hf
    refine lv_istore (lv' := [(6, .int t29), (5, .int t16), (4, .int 0), (0, .int x0), (1, .long x1), (3, .int x3)]) hx hb dX1_rounded_29 hl (by decide) rfl (fun ls hl => ?_)
    refine lv_iload hx hb dX1_rounded_31 (lv_at hl 0 rfl) ?_
    refine lv_iload_n hx hb dX1_rounded_33 rfl (lv_at hl 5 rfl) ?_
    refine lv_isub hx hb dX1_rounded_34 ?_
    refine lv_topi (fun t35 et35 => ?_)
    replace hf := o_nm_go et35 hf
    refine lv_istore (lv' := [(7, .int t35), (6, .int t29), (5, .int t16), (4, .int 0), (0, .int x0), (1, .long x1), (3, .int x3)]) hx hb dX1_rounded_35 hl (by decide) rfl (fun ls hl => ?_)
    refine lv_iload hx hb dX1_rounded_37 (lv_at hl 1 rfl) ?_
    refine lv_sipush (v := 254) hx hb dX1_rounded_39 (by decide) ?_
    refine lv_icmp_le (tgt := 52) hx hb dX1_rounded_42 (by decide) (fun c42 => ?_) (fun c42 => ?_)
    · replace hf := o_t c42 hf
      refine lv_iload hx hb dX1_rounded_52 (lv_at hl 0 rfl) ?_
      refine lv_if_gt (tgt := 76) hx hb dX1_rounded_54 (by decide) (fun c54 => ?_) (fun c54 => ?_)
      · replace hf := o_t c54 hf
        refine lv_iload hx hb dX1_rounded_76 (lv_at hl 0 rfl) ?_
        refine lv_bipush (v := 63) hx hb dX1_rounded_78 (by decide) ?_
        refine lv_icmp_ge (tgt := 122) hx hb dX1_rounded_80 (by decide) (fun c80 => ?_) (fun c80 => ?_)
        · replace hf := o_t c80 hf
          exact w_X1_rounded_B122 C0 x0 0 ls hf (lv_sub hl [4, 3] rfl)
        · replace hf := o_f c80 hf
          refine lv_lload_n hx hb dX1_rounded_83 rfl (lv_at hl 5 rfl) ?_
          refine lv_iload hx hb dX1_rounded_84 (lv_at hl 0 rfl) ?_
          refine lv_lshr hx hb dX1_rounded_86 rfl ?_
          refine lv_lconst (v := 1) hx hb dX1_rounded_87 (by decide) ?_
          refine lv_land hx hb dX1_rounded_88 ?_
          refine lv_topl (fun t89 et89 => ?_)
          replace hf := o_nm_go et89 hf
          refine lv_lstore (lv' := [(8, .long t89), (7, .int t35), (6, .int t29), (5, .int t16), (4, .int 0), (0, .int x0), (1, .long x1), (3, .int x3)]) hx hb dX1_rounded_89 hl (by decide) rfl (fun ls hl => ?_)
          refine lv_lload_n hx hb dX1_rounded_91 rfl (lv_at hl 6 rfl) ?_
          refine lv_lconst (v := 1) hx hb dX1_rounded_92 (by decide) ?_
          refine lv_iload hx hb dX1_rounded_93 (lv_at hl 1 rfl) ?_
          refine lv_iconst (v := 1) hx hb dX1_rounded_95 (by decide) ?_
          refine lv_isub hx hb dX1_rounded_96 ?_
          refine lv_lshl hx hb dX1_rounded_97 rfl ?_
          refine lv_ladd hx hb dX1_rounded_98 ?_
          refine lv_lconst (v := 1) hx hb dX1_rounded_99 (by decide) ?_
          refine lv_lsub hx hb dX1_rounded_100 ?_
          refine lv_lload hx hb dX1_rounded_101 (lv_at hl 0 rfl) ?_
          refine lv_ladd hx hb dX1_rounded_103 ?_
          refine lv_iload hx hb dX1_rounded_104 (lv_at hl 1 rfl) ?_
          refine lv_lshr hx hb dX1_rounded_106 rfl ?_
          refine lv_topl (fun t107 et107 => ?_)
          replace hf := o_nm_go et107 hf
          refine lv_lstore (lv' := [(10, .long t107), (8, .long t89), (7, .int t35), (6, .int t29), (5, .int t16), (4, .int 0), (0, .int x0), (1, .long x1), (3, .int x3)]) hx hb dX1_rounded_107 hl (by decide) rfl (fun ls hl => ?_)
          refine lv_iload hx hb dX1_rounded_109 (lv_at hl 3 rfl) ?_
          refine lv_iconst (v := 1) hx hb dX1_rounded_111 (by decide) ?_
          refine lv_isub hx hb dX1_rounded_112 ?_
          refine lv_bipush (v := 23) hx hb dX1_rounded_113 (by decide) ?_
          refine lv_ishl hx hb dX1_rounded_115 ?_
          refine lv_lload hx hb dX1_rounded_116 (lv_at hl 0 rfl) ?_
          refine lv_l2i hx hb dX1_rounded_118 rfl ?_
          refine lv_iadd hx hb dX1_rounded_119 ?_
          refine lv_topi (fun t120 et120 => ?_)
          replace hf := o_nm_go et120 hf
          refine lv_istore (lv' := [(4, .int t120), (10, .long t107), (8, .long t89), (7, .int t35), (6, .int t29), (5, .int t16), (0, .int x0), (1, .long x1), (3, .int x3)]) hx hb dX1_rounded_120 hl (by decide) rfl (fun ls hl => ?_)
          exact w_X1_rounded_B122 C0 x0 t120 ls hf (lv_sub hl [6, 0] rfl)
      · replace hf := o_f c54 hf
        refine lv_iload hx hb dX1_rounded_57 (lv_at hl 1 rfl) ?_
        refine lv_iconst (v := 1) hx hb dX1_rounded_59 (by decide) ?_
        refine lv_isub hx hb dX1_rounded_60 ?_
        refine lv_bipush (v := 23) hx hb dX1_rounded_61 (by decide) ?_
        refine lv_ishl hx hb dX1_rounded_63 ?_
        refine lv_lload_n hx hb dX1_rounded_64 rfl (lv_at hl 5 rfl) ?_
        refine lv_iload hx hb dX1_rounded_65 (lv_at hl 0 rfl) ?_
        refine lv_ineg hx hb dX1_rounded_67 ?_
        refine lv_lshl hx hb dX1_rounded_68 rfl ?_
        refine lv_l2i hx hb dX1_rounded_69 rfl ?_
        refine lv_iadd hx hb dX1_rounded_70 ?_
        refine lv_topi (fun t71 et71 => ?_)
        replace hf := o_nm_go et71 hf
        refine lv_istore (lv' := [(4, .int t71), (7, .int t35), (6, .int t29), (5, .int t16), (0, .int x0), (1, .long x1), (3, .int x3)]) hx hb dX1_rounded_71 hl (by decide) rfl (fun ls hl => ?_)
        refine lv_goto (tgt := 122) hx hb dX1_rounded_73 (by decide) ?_
        exact w_X1_rounded_B122 C0 x0 t71 ls hf (lv_sub hl [4, 0] rfl)
    · replace hf := o_f c42 hf
      refine lv_ldc (v := 2139095040) hx hb hown (hts (.constant RX1 54 (2139095040)) (List.mem_cons_of_mem _ (List.mem_of_getElem? (i := 4) rfl))) dX1_rounded_45 ?_
      refine lv_istore (lv' := [(4, .int 2139095040), (7, .int t35), (6, .int t29), (5, .int t16), (0, .int x0), (1, .long x1), (3, .int x3)]) hx hb dX1_rounded_47 hl (by decide) rfl (fun ls hl => ?_)
      refine lv_goto (tgt := 122) hx hb dX1_rounded_49 (by decide) ?_
      exact w_X1_rounded_B122 C0 x0 2139095040 ls hf (lv_sub hl [4, 0] rfl)
set_option maxHeartbeats 4000000 in
set_option maxRecDepth 100000 in
theorem c_X1_rounded (l : Launch) {x0 : Int32} {x1 : Int64} {x3 : Int32} {r : Int32} (hf : f_X1_rounded x0 x1 x3 = some r) : Met l yX1_rounded wsX1_rounded rm_X1_rounded (g_PS [.int x0, .long x1, .int x3]) (g_SI r) 0 0 (fun _ => False) := by
  refine g_metS (cc := cX1_rounded) (maxL := 12) (ret := (some .int)) (by decide) rfl ?_
  intro p e s m below meth c C0
  have hl := lv_entry ([.int x0, .long x1, .int x3]) (n := 12) (Nat.le_of_ble_eq_true rfl)
  rw [lg_entry_eq]
  generalize (lg_sl ([.int x0, .long x1, .int x3]) ++ List.replicate (12 - (lg_sl ([.int x0, .long x1, .int x3])).length) Slot.unset).toArray = ls at hl ⊢
  have hl : lv_has ls 12 [(0, .int x0), (1, .long x1), (3, .int x3)] := hl
  exact w_X1_rounded_B0 C0 x0 x1 x3 ls hf (lv_sub hl [0, 1, 2] rfl)
/-! FloatBoxes$Floats.ofWhole(I)I -/
abbrev rm_X1_ofWhole : Room := { frames := 3, cells := 0, slots := 0, locals := 74 }
def f_X1_ofWhole_B9  (x0 : Int32) (z0 : Int32) : Option (Int32) :=
  o_b1 (f_X1_rounded z0 (o_absl x0.toInt64) 150) (fun (r17 : Int32) =>
  some r17)
set_option maxHeartbeats 4000000 in
set_option maxRecDepth 100000 in
theorem w_X1_ofWhole_B9 {p : Program} {l : Launch} {e : Env} {s : State} {m : MethodId} {args : Array Value} {below : List Frame} {meth : Method} {c : Code} {r : Int32} (C0 : g_cx cX1_ofWhole (some .int) 1 RX1 wsX1_ofWhole p s m args meth c) : ∀ (x0 : Int32) (z0 : Int32) (ls : Array Slot), f_X1_ofWhole_B9 x0 z0 = some r → lv_has ls 1 [(0, .int x0)] → W p l e rm_X1_ofWhole s m args below meth c s.heap [] 0 0 (MQ below (g_SI r) args s 0 0 (fun _ => False)) (F0 m 9 ls [.int z0]) := by
  obtain ⟨hx, hb, hr, hml, hown, hts, hlocks⟩ := id C0
  intro x0 z0 ls hf hl
  unfold f_X1_ofWhole_B9 at hf
  refine lv_iload_n hx hb dX1_ofWhole_9 rfl (lv_at hl 0 rfl) ?_
  refine lv_i2l hx hb dX1_ofWhole_10 rfl ?_
  refine va_mabs_long hx hb (by rw [hml]; exact hl.1.symm) hown (hts (.methodLink RX1 7 Lib.MathLoose.abs_long.x) (List.mem_cons_of_mem _ (List.mem_of_getElem? (i := 0) rfl))) (hts (.static Lib.MathLoose.abs_long.x) (List.mem_cons_of_mem _ (List.mem_of_getElem? (i := 1) rfl))) (hts (.initialized "java/lang/Math") (List.mem_cons_of_mem _ (List.mem_of_getElem? (i := 2) rfl))) (hts (.code Lib.MathLoose.abs_long.x Lib.MathLoose.abs_long.code 2 (some .long)) (List.mem_cons_of_mem _ (List.mem_of_getElem? (i := 3) rfl))) (Nat.le_of_ble_eq_true rfl) (Nat.le_of_ble_eq_true rfl) (Nat.zero_le _) (Nat.zero_le _) dX1_ofWhole_11 ?_
  refine lv_sipush (v := 150) hx hb dX1_ofWhole_14 (by decide) ?_
  obtain ⟨r17, hg17, hf⟩ := o_b1_go hf
  refine g_callSi (rest := []) ⟨hx, hb, hml, hown, hts⟩ (c_X1_rounded l hg17) (va_cwS 3 hts gX1_ofWhole_X1_rounded rfl rfl rfl (by decide +kernel) ⟨Nat.le_of_ble_eq_true rfl, Nat.le_of_ble_eq_true rfl⟩) rfl hl.1 rfl (Nat.le_of_ble_eq_true rfl) dX1_ofWhole_17 ?_
  have q0 := Option.some.inj hf
  subst q0
  exact g_siret hx hb hr hlocks dX1_ofWhole_20
def f_X1_ofWhole  (x0 : Int32) : Option (Int32) :=
  if 0 ≤ x0 then
    f_X1_ofWhole_B9 x0 0
  else
    f_X1_ofWhole_B9 x0 1
set_option maxHeartbeats 4000000 in
set_option maxRecDepth 100000 in
theorem w_X1_ofWhole_B0 {p : Program} {l : Launch} {e : Env} {s : State} {m : MethodId} {args : Array Value} {below : List Frame} {meth : Method} {c : Code} {r : Int32} (C0 : g_cx cX1_ofWhole (some .int) 1 RX1 wsX1_ofWhole p s m args meth c) : ∀ (x0 : Int32) (ls : Array Slot), f_X1_ofWhole x0 = some r → lv_has ls 1 [(0, .int x0)] → W p l e rm_X1_ofWhole s m args below meth c s.heap [] 0 0 (MQ below (g_SI r) args s 0 0 (fun _ => False)) (F0 m 0 ls []) := by
  obtain ⟨hx, hb, hr, hml, hown, hts, hlocks⟩ := id C0
  intro x0 ls hf hl
  unfold f_X1_ofWhole at hf
  refine lv_iload_n hx hb dX1_ofWhole_0 rfl (lv_at hl 0 rfl) ?_
  refine lv_if_ge (tgt := 8) hx hb dX1_ofWhole_1 (by decide) (fun c1 => ?_) (fun c1 => ?_)
  · replace hf := o_t c1 hf
    refine lv_iconst (v := 0) hx hb dX1_ofWhole_8 (by decide) ?_
    exact w_X1_ofWhole_B9 C0 x0 0 ls hf (lv_sub hl [0] rfl)
  · replace hf := o_f c1 hf
    refine lv_iconst (v := 1) hx hb dX1_ofWhole_4 (by decide) ?_
    refine lv_goto (tgt := 9) hx hb dX1_ofWhole_5 (by decide) ?_
    exact w_X1_ofWhole_B9 C0 x0 1 ls hf (lv_sub hl [0] rfl)
set_option maxHeartbeats 4000000 in
set_option maxRecDepth 100000 in
theorem c_X1_ofWhole (l : Launch) {x0 : Int32} {r : Int32} (hf : f_X1_ofWhole x0 = some r) : Met l yX1_ofWhole wsX1_ofWhole rm_X1_ofWhole (g_PS [.int x0]) (g_SI r) 0 0 (fun _ => False) := by
  refine g_metS (cc := cX1_ofWhole) (maxL := 1) (ret := (some .int)) (by decide) rfl ?_
  intro p e s m below meth c C0
  have hl := lv_entry ([.int x0]) (n := 1) (Nat.le_of_ble_eq_true rfl)
  rw [lg_entry_eq]
  generalize (lg_sl ([.int x0]) ++ List.replicate (1 - (lg_sl ([.int x0])).length) Slot.unset).toArray = ls at hl ⊢
  have hl : lv_has ls 1 [(0, .int x0)] := hl
  exact w_X1_ofWhole_B0 C0 x0 ls hf (lv_sub hl [0] rfl)
/-! FloatBoxes$Floats.doubleExponent(J)I -/
abbrev rm_X1_doubleExponent : Room := { frames := 0, cells := 0, slots := 0, locals := 0 }
def f_X1_doubleExponent  (x0 : Int64) : Option (Int32) :=
  some ((((x0.toUInt64 >>> ((52 : Int32).toInt64.toUInt64 &&& Int64.toUInt64 63)).toInt64).toInt32) &&& 2047)
set_option maxHeartbeats 4000000 in
set_option maxRecDepth 100000 in
theorem w_X1_doubleExponent_B0 {p : Program} {l : Launch} {e : Env} {s : State} {m : MethodId} {args : Array Value} {below : List Frame} {meth : Method} {c : Code} {r : Int32} (C0 : g_cx cX1_doubleExponent (some .int) 2 RX1 wsX1_doubleExponent p s m args meth c) : ∀ (x0 : Int64) (ls : Array Slot), f_X1_doubleExponent x0 = some r → lv_has ls 2 [(0, .long x0)] → W p l e rm_X1_doubleExponent s m args below meth c s.heap [] 0 0 (MQ below (g_SI r) args s 0 0 (fun _ => False)) (F0 m 0 ls []) := by
  obtain ⟨hx, hb, hr, hml, hown, hts, hlocks⟩ := id C0
  intro x0 ls hf hl
  unfold f_X1_doubleExponent at hf
  refine lv_lload_n hx hb dX1_doubleExponent_0 rfl (lv_at hl 0 rfl) ?_
  refine lv_bipush (v := 52) hx hb dX1_doubleExponent_1 (by decide) ?_
  refine lv_lushr hx hb dX1_doubleExponent_3 rfl ?_
  refine lv_l2i hx hb dX1_doubleExponent_4 rfl ?_
  refine lv_sipush (v := 2047) hx hb dX1_doubleExponent_5 (by decide) ?_
  refine lv_iand hx hb dX1_doubleExponent_8 ?_
  have q0 := Option.some.inj hf
  subst q0
  exact g_siret hx hb hr hlocks dX1_doubleExponent_9
set_option maxHeartbeats 4000000 in
set_option maxRecDepth 100000 in
theorem c_X1_doubleExponent (l : Launch) {x0 : Int64} {r : Int32} (hf : f_X1_doubleExponent x0 = some r) : Met l yX1_doubleExponent wsX1_doubleExponent rm_X1_doubleExponent (g_PS [.long x0]) (g_SI r) 0 0 (fun _ => False) := by
  refine g_metS (cc := cX1_doubleExponent) (maxL := 2) (ret := (some .int)) (by decide) rfl ?_
  intro p e s m below meth c C0
  have hl := lv_entry ([.long x0]) (n := 2) (Nat.le_of_ble_eq_true rfl)
  rw [lg_entry_eq]
  generalize (lg_sl ([.long x0]) ++ List.replicate (2 - (lg_sl ([.long x0])).length) Slot.unset).toArray = ls at hl ⊢
  have hl : lv_has ls 2 [(0, .long x0)] := hl
  exact w_X1_doubleExponent_B0 C0 x0 ls hf (lv_sub hl [0] rfl)
/-! FloatBoxes$Floats.doubleFraction(J)J -/
abbrev rm_X1_doubleFraction : Room := { frames := 0, cells := 0, slots := 0, locals := 0 }
def f_X1_doubleFraction  (x0 : Int64) : Option (Int64) :=
  some (x0 &&& 4503599627370495)
set_option maxHeartbeats 4000000 in
set_option maxRecDepth 100000 in
theorem w_X1_doubleFraction_B0 {p : Program} {l : Launch} {e : Env} {s : State} {m : MethodId} {args : Array Value} {below : List Frame} {meth : Method} {c : Code} {r : Int64} (C0 : g_cx cX1_doubleFraction (some .long) 2 RX1 wsX1_doubleFraction p s m args meth c) : ∀ (x0 : Int64) (ls : Array Slot), f_X1_doubleFraction x0 = some r → lv_has ls 2 [(0, .long x0)] → W p l e rm_X1_doubleFraction s m args below meth c s.heap [] 0 0 (MQ below (g_SL r) args s 0 0 (fun _ => False)) (F0 m 0 ls []) := by
  obtain ⟨hx, hb, hr, hml, hown, hts, hlocks⟩ := id C0
  intro x0 ls hf hl
  unfold f_X1_doubleFraction at hf
  refine lv_lload_n hx hb dX1_doubleFraction_0 rfl (lv_at hl 0 rfl) ?_
  refine lv_ldc2 (v := 4503599627370495) hx hb hown (hts (.constantLong RX1 56 (4503599627370495)) (List.mem_cons_of_mem _ (List.mem_of_getElem? (i := 0) rfl))) dX1_doubleFraction_1 ?_
  refine lv_land hx hb dX1_doubleFraction_4 ?_
  have q0 := Option.some.inj hf
  subst q0
  exact g_slret hx hb hr hlocks dX1_doubleFraction_5
set_option maxHeartbeats 4000000 in
set_option maxRecDepth 100000 in
theorem c_X1_doubleFraction (l : Launch) {x0 : Int64} {r : Int64} (hf : f_X1_doubleFraction x0 = some r) : Met l yX1_doubleFraction wsX1_doubleFraction rm_X1_doubleFraction (g_PS [.long x0]) (g_SL r) 0 0 (fun _ => False) := by
  refine g_metS (cc := cX1_doubleFraction) (maxL := 2) (ret := (some .long)) (by decide) rfl ?_
  intro p e s m below meth c C0
  have hl := lv_entry ([.long x0]) (n := 2) (Nat.le_of_ble_eq_true rfl)
  rw [lg_entry_eq]
  generalize (lg_sl ([.long x0]) ++ List.replicate (2 - (lg_sl ([.long x0])).length) Slot.unset).toArray = ls at hl ⊢
  have hl : lv_has ls 2 [(0, .long x0)] := hl
  exact w_X1_doubleFraction_B0 C0 x0 ls hf (lv_sub hl [0] rfl)
/-! FloatBoxes$Floats.isNotANumber(J)Z -/
abbrev rm_X1_isNotANumber : Room := { frames := 1, cells := 0, slots := 0, locals := 21 }
def f_X1_isNotANumber  (x0 : Int64) : Option (Int32) :=
  o_b1 (f_X1_doubleExponent x0) (fun (r1 : Int32) =>
  if r1 = 2047 then
    o_b1 (f_X1_doubleFraction x0) (fun (r11 : Int64) =>
    if (lg_cmp r11 0) = 0 then
      some 0
    else
      some 1)
  else
    some 0)
set_option maxHeartbeats 4000000 in
set_option maxRecDepth 100000 in
theorem w_X1_isNotANumber_B0 {p : Program} {l : Launch} {e : Env} {s : State} {m : MethodId} {args : Array Value} {below : List Frame} {meth : Method} {c : Code} {r : Int32} (C0 : g_cx cX1_isNotANumber (some .boolean) 2 RX1 wsX1_isNotANumber p s m args meth c) : ∀ (x0 : Int64) (ls : Array Slot), f_X1_isNotANumber x0 = some r → lv_has ls 2 [(0, .long x0)] → W p l e rm_X1_isNotANumber s m args below meth c s.heap [] 0 0 (MQ below (g_SI r) args s 0 0 (fun _ => False)) (F0 m 0 ls []) := by
  obtain ⟨hx, hb, hr, hml, hown, hts, hlocks⟩ := id C0
  intro x0 ls hf hl
  unfold f_X1_isNotANumber at hf
  refine lv_lload_n hx hb dX1_isNotANumber_0 rfl (lv_at hl 0 rfl) ?_
  obtain ⟨r1, hg1, hf⟩ := o_b1_go hf
  refine g_callSi (rest := []) ⟨hx, hb, hml, hown, hts⟩ (c_X1_doubleExponent l hg1) (va_cwS 1 hts gX1_isNotANumber_X1_doubleExponent rfl rfl rfl (by decide +kernel) ⟨Nat.le_of_ble_eq_true rfl, Nat.le_of_ble_eq_true rfl⟩) rfl hl.1 rfl (Nat.le_of_ble_eq_true rfl) dX1_isNotANumber_1 ?_
  refine lv_sipush (v := 2047) hx hb dX1_isNotANumber_4 (by decide) ?_
  refine lv_icmp_ne (tgt := 23) hx hb dX1_isNotANumber_7 (by decide) (fun c7 => ?_) (fun c7 => ?_)
  · replace hf := o_f c7 hf
    refine lv_iconst (v := 0) hx hb dX1_isNotANumber_23 (by decide) ?_
    have q0 := Option.some.inj hf
    subst q0
    exact g_szret hx hb hr hlocks (by decide) dX1_isNotANumber_24
  · replace hf := o_t c7 hf
    refine lv_lload_n hx hb dX1_isNotANumber_10 rfl (lv_at hl 0 rfl) ?_
    obtain ⟨r11, hg11, hf⟩ := o_b1_go hf
    refine g_callSl (rest := []) ⟨hx, hb, hml, hown, hts⟩ (c_X1_doubleFraction l hg11) (va_cwS 1 hts gX1_isNotANumber_X1_doubleFraction rfl rfl rfl (by decide +kernel) ⟨Nat.le_of_ble_eq_true rfl, Nat.le_of_ble_eq_true rfl⟩) rfl hl.1 rfl (Nat.le_of_ble_eq_true rfl) dX1_isNotANumber_11 ?_
    refine lv_lconst (v := 0) hx hb dX1_isNotANumber_14 (by decide) ?_
    refine W.lcmp hx hb dX1_isNotANumber_15 ?_
    refine lv_if_eq (tgt := 23) hx hb dX1_isNotANumber_16 (by decide) (fun c16 => ?_) (fun c16 => ?_)
    · replace hf := o_t c16 hf
      refine lv_iconst (v := 0) hx hb dX1_isNotANumber_23 (by decide) ?_
      have q0 := Option.some.inj hf
      subst q0
      exact g_szret hx hb hr hlocks (by decide) dX1_isNotANumber_24
    · replace hf := o_f c16 hf
      refine lv_iconst (v := 1) hx hb dX1_isNotANumber_19 (by decide) ?_
      refine lv_goto (tgt := 24) hx hb dX1_isNotANumber_20 (by decide) ?_
      have q0 := Option.some.inj hf
      subst q0
      exact g_szret hx hb hr hlocks (by decide) dX1_isNotANumber_24
set_option maxHeartbeats 4000000 in
set_option maxRecDepth 100000 in
theorem c_X1_isNotANumber (l : Launch) {x0 : Int64} {r : Int32} (hf : f_X1_isNotANumber x0 = some r) : Met l yX1_isNotANumber wsX1_isNotANumber rm_X1_isNotANumber (g_PS [.long x0]) (g_SI r) 0 0 (fun _ => False) := by
  refine g_metS (cc := cX1_isNotANumber) (maxL := 2) (ret := (some .boolean)) (by decide) rfl ?_
  intro p e s m below meth c C0
  have hl := lv_entry ([.long x0]) (n := 2) (Nat.le_of_ble_eq_true rfl)
  rw [lg_entry_eq]
  generalize (lg_sl ([.long x0]) ++ List.replicate (2 - (lg_sl ([.long x0])).length) Slot.unset).toArray = ls at hl ⊢
  have hl : lv_has ls 2 [(0, .long x0)] := hl
  exact w_X1_isNotANumber_B0 C0 x0 ls hf (lv_sub hl [0] rfl)
/-! FloatBoxes$Floats.ofDouble(J)I -/
abbrev rm_X1_ofDouble : Room := { frames := 3, cells := 0, slots := 0, locals := 74 }
def f_X1_ofDouble_B31  (x2 : Int32) (x3 : Int64) (z0 : Int32) : Option (Int32) :=
  o_b1 (f_X1_rounded z0 x3 (((o_max x2 1) - 1075) + 150)) (fun (r45 : Int32) =>
  some r45)
set_option maxHeartbeats 4000000 in
set_option maxRecDepth 100000 in
theorem w_X1_ofDouble_B31 {p : Program} {l : Launch} {e : Env} {s : State} {m : MethodId} {args : Array Value} {below : List Frame} {meth : Method} {c : Code} {r : Int32} (C0 : g_cx cX1_ofDouble (some .int) 5 RX1 wsX1_ofDouble p s m args meth c) : ∀ (x2 : Int32) (x3 : Int64) (z0 : Int32) (ls : Array Slot), f_X1_ofDouble_B31 x2 x3 z0 = some r → lv_has ls 5 [(2, .int x2), (3, .long x3)] → W p l e rm_X1_ofDouble s m args below meth c s.heap [] 0 0 (MQ below (g_SI r) args s 0 0 (fun _ => False)) (F0 m 31 ls [.int z0]) := by
  obtain ⟨hx, hb, hr, hml, hown, hts, hlocks⟩ := id C0
  intro x2 x3 z0 ls hf hl
  unfold f_X1_ofDouble_B31 at hf
  refine lv_lload_n hx hb dX1_ofDouble_31 rfl (lv_at hl 1 rfl) ?_
  refine lv_iload_n hx hb dX1_ofDouble_32 rfl (lv_at hl 0 rfl) ?_
  refine lv_iconst (v := 1) hx hb dX1_ofDouble_33 (by decide) ?_
  refine va_mmax hx hb (by rw [hml]; exact hl.1.symm) hown (hts (.methodLink RX1 28 Lib.Math.max.name) (List.mem_cons_of_mem _ (List.mem_append_left _ (List.mem_of_getElem? (i := 1) rfl)))) (hts (.static Lib.Math.max.name) (List.mem_cons_of_mem _ (List.mem_append_left _ (List.mem_of_getElem? (i := 2) rfl)))) (hts (.initialized "java/lang/Math") (List.mem_cons_of_mem _ (List.mem_append_left _ (List.mem_of_getElem? (i := 3) rfl)))) (hts (.code Lib.Math.max.name Lib.Math.max.code 2 (some .int)) (List.mem_cons_of_mem _ (List.mem_append_left _ (List.mem_of_getElem? (i := 4) rfl)))) (Nat.le_of_ble_eq_true rfl) (Nat.le_of_ble_eq_true rfl) (Nat.zero_le _) (Nat.zero_le _) dX1_ofDouble_34 ?_
  refine lv_sipush (v := 1075) hx hb dX1_ofDouble_37 (by decide) ?_
  refine lv_isub hx hb dX1_ofDouble_40 ?_
  refine lv_sipush (v := 150) hx hb dX1_ofDouble_41 (by decide) ?_
  refine lv_iadd hx hb dX1_ofDouble_44 ?_
  obtain ⟨r45, hg45, hf⟩ := o_b1_go hf
  refine g_callSi (rest := []) ⟨hx, hb, hml, hown, hts⟩ (c_X1_rounded l hg45) (va_cwS 3 hts gX1_ofDouble_X1_rounded rfl rfl rfl (by decide +kernel) ⟨Nat.le_of_ble_eq_true rfl, Nat.le_of_ble_eq_true rfl⟩) rfl hl.1 rfl (Nat.le_of_ble_eq_true rfl) dX1_ofDouble_45 ?_
  have q0 := Option.some.inj hf
  subst q0
  exact g_siret hx hb hr hlocks dX1_ofDouble_48
def f_X1_ofDouble_B20  (x0 : Int64) (x2 : Int32) (x3 : Int64) : Option (Int32) :=
  if 0 ≤ (lg_cmp x0 0) then
    f_X1_ofDouble_B31 x2 x3 0
  else
    f_X1_ofDouble_B31 x2 x3 1
set_option maxHeartbeats 4000000 in
set_option maxRecDepth 100000 in
theorem w_X1_ofDouble_B20 {p : Program} {l : Launch} {e : Env} {s : State} {m : MethodId} {args : Array Value} {below : List Frame} {meth : Method} {c : Code} {r : Int32} (C0 : g_cx cX1_ofDouble (some .int) 5 RX1 wsX1_ofDouble p s m args meth c) : ∀ (x0 : Int64) (x2 : Int32) (x3 : Int64) (ls : Array Slot), f_X1_ofDouble_B20 x0 x2 x3 = some r → lv_has ls 5 [(0, .long x0), (2, .int x2), (3, .long x3)] → W p l e rm_X1_ofDouble s m args below meth c s.heap [] 0 0 (MQ below (g_SI r) args s 0 0 (fun _ => False)) (F0 m 20 ls []) := by
  obtain ⟨hx, hb, hr, hml, hown, hts, hlocks⟩ := id C0
  intro x0 x2 x3 ls hf hl
  unfold f_X1_ofDouble_B20 at hf
  refine lv_lload_n hx hb dX1_ofDouble_20 rfl (lv_at hl 0 rfl) ?_
  refine lv_lconst (v := 0) hx hb dX1_ofDouble_21 (by decide) ?_
  refine W.lcmp hx hb dX1_ofDouble_22 ?_
  refine lv_if_ge (tgt := 30) hx hb dX1_ofDouble_23 (by decide) (fun c23 => ?_) (fun c23 => ?_)
  · replace hf := o_t c23 hf
    refine lv_iconst (v := 0) hx hb dX1_ofDouble_30 (by decide) ?_
    exact w_X1_ofDouble_B31 C0 x2 x3 0 ls hf (lv_sub hl [1, 2] rfl)
  · replace hf := o_f c23 hf
    refine lv_iconst (v := 1) hx hb dX1_ofDouble_26 (by decide) ?_
    refine lv_goto (tgt := 31) hx hb dX1_ofDouble_27 (by decide) ?_
    exact w_X1_ofDouble_B31 C0 x2 x3 1 ls hf (lv_sub hl [1, 2] rfl)
def f_X1_ofDouble  (x0 : Int64) : Option (Int32) :=
  o_b1 (f_X1_doubleExponent x0) (fun (r1 : Int32) =>
  o_b1 (f_X1_doubleFraction x0) (fun (r6 : Int64) =>
  if r1 ≤ 0 then
    f_X1_ofDouble_B20 x0 r1 r6
  else
    o_nm (r6 + 4503599627370496) (fun (t19 : Int64) =>
    f_X1_ofDouble_B20 x0 r1 t19)))
set_option maxHeartbeats 4000000 in
set_option maxRecDepth 100000 in
theorem w_X1_ofDouble_B0 {p : Program} {l : Launch} {e : Env} {s : State} {m : MethodId} {args : Array Value} {below : List Frame} {meth : Method} {c : Code} {r : Int32} (C0 : g_cx cX1_ofDouble (some .int) 5 RX1 wsX1_ofDouble p s m args meth c) : ∀ (x0 : Int64) (ls : Array Slot), f_X1_ofDouble x0 = some r → lv_has ls 5 [(0, .long x0)] → W p l e rm_X1_ofDouble s m args below meth c s.heap [] 0 0 (MQ below (g_SI r) args s 0 0 (fun _ => False)) (F0 m 0 ls []) := by
  obtain ⟨hx, hb, hr, hml, hown, hts, hlocks⟩ := id C0
  intro x0 ls hf hl
  unfold f_X1_ofDouble at hf
  refine lv_lload_n hx hb dX1_ofDouble_0 rfl (lv_at hl 0 rfl) ?_
  obtain ⟨r1, hg1, hf⟩ := o_b1_go hf
  refine g_callSi (rest := []) ⟨hx, hb, hml, hown, hts⟩ (c_X1_doubleExponent l hg1) (va_cwS 1 hts gX1_ofDouble_X1_doubleExponent rfl rfl rfl (by decide +kernel) ⟨Nat.le_of_ble_eq_true rfl, Nat.le_of_ble_eq_true rfl⟩) rfl hl.1 rfl (Nat.le_of_ble_eq_true rfl) dX1_ofDouble_1 ?_
  refine lv_istore_n (lv' := [(2, .int r1), (0, .long x0)]) hx hb dX1_ofDouble_4 rfl hl (by decide) rfl (fun ls hl => ?_)
  refine lv_lload_n hx hb dX1_ofDouble_5 rfl (lv_at hl 1 rfl) ?_
  obtain ⟨r6, hg6, hf⟩ := o_b1_go hf
  refine g_callSl (rest := []) ⟨hx, hb, hml, hown, hts⟩ (c_X1_doubleFraction l hg6) (va_cwS 1 hts gX1_ofDouble_X1_doubleFraction rfl rfl rfl (by decide +kernel) ⟨Nat.le_of_ble_eq_true rfl, Nat.le_of_ble_eq_true rfl⟩) rfl hl.1 rfl (Nat.le_of_ble_eq_true rfl) dX1_ofDouble_6 ?_
  refine lv_lstore_n (lv' := [(3, .long r6), (2, .int r1), (0, .long x0)]) hx hb dX1_ofDouble_9 rfl hl (by decide) rfl (fun ls hl => ?_)
  refine lv_iload_n hx hb dX1_ofDouble_10 rfl (lv_at hl 1 rfl) ?_
  refine lv_if_le (tgt := 20) hx hb dX1_ofDouble_11 (by decide) (fun c11 => ?_) (fun c11 => ?_)
  · replace hf := o_t c11 hf
    exact w_X1_ofDouble_B20 C0 x0 r1 r6 ls hf (lv_sub hl [2, 1, 0] rfl)
  · replace hf := o_f c11 hf
    refine lv_lload_n hx hb dX1_ofDouble_14 rfl (lv_at hl 0 rfl) ?_
    refine lv_ldc2 (v := 4503599627370496) hx hb hown (hts (.constantLong RX1 26 (4503599627370496)) (List.mem_cons_of_mem _ (List.mem_append_left _ (List.mem_of_getElem? (i := 0) rfl)))) dX1_ofDouble_15 ?_
    refine lv_ladd hx hb dX1_ofDouble_18 ?_
    refine lv_topl (fun t19 et19 => ?_)
    replace hf := o_nm_go et19 hf
    refine lv_lstore_n (lv' := [(3, .long t19), (2, .int r1), (0, .long x0)]) hx hb dX1_ofDouble_19 rfl hl (by decide) rfl (fun ls hl => ?_)
    exact w_X1_ofDouble_B20 C0 x0 r1 t19 ls hf (lv_sub hl [2, 1, 0] rfl)
set_option maxHeartbeats 4000000 in
set_option maxRecDepth 100000 in
theorem c_X1_ofDouble (l : Launch) {x0 : Int64} {r : Int32} (hf : f_X1_ofDouble x0 = some r) : Met l yX1_ofDouble wsX1_ofDouble rm_X1_ofDouble (g_PS [.long x0]) (g_SI r) 0 0 (fun _ => False) := by
  refine g_metS (cc := cX1_ofDouble) (maxL := 5) (ret := (some .int)) (by decide) rfl ?_
  intro p e s m below meth c C0
  have hl := lv_entry ([.long x0]) (n := 5) (Nat.le_of_ble_eq_true rfl)
  rw [lg_entry_eq]
  generalize (lg_sl ([.long x0]) ++ List.replicate (5 - (lg_sl ([.long x0])).length) Slot.unset).toArray = ls at hl ⊢
  have hl : lv_has ls 5 [(0, .long x0)] := hl
  exact w_X1_ofDouble_B0 C0 x0 ls hf (lv_sub hl [0] rfl)
/-! FloatBoxes$Places.magnitude(I)I -/
abbrev rm_X4_magnitude : Room := { frames := 0, cells := 0, slots := 0, locals := 0 }
def f_X4_magnitude  (x0 : Int32) : Option (Int32) :=
  if 0 ≤ x0 then
    some x0
  else
    some (((-1)) - x0)
set_option maxHeartbeats 4000000 in
set_option maxRecDepth 100000 in
theorem w_X4_magnitude_B0 {p : Program} {l : Launch} {e : Env} {s : State} {m : MethodId} {args : Array Value} {below : List Frame} {meth : Method} {c : Code} {r : Int32} (C0 : g_cx cX4_magnitude (some .int) 1 RX4 wsX4_magnitude p s m args meth c) : ∀ (x0 : Int32) (ls : Array Slot), f_X4_magnitude x0 = some r → lv_has ls 1 [(0, .int x0)] → W p l e rm_X4_magnitude s m args below meth c s.heap [] 0 0 (MQ below (g_SI r) args s 0 0 (fun _ => False)) (F0 m 0 ls []) := by
  obtain ⟨hx, hb, hr, hml, hown, hts, hlocks⟩ := id C0
  intro x0 ls hf hl
  unfold f_X4_magnitude at hf
  refine lv_iload_n hx hb dX4_magnitude_0 rfl (lv_at hl 0 rfl) ?_
  refine lv_if_ge (tgt := 10) hx hb dX4_magnitude_1 (by decide) (fun c1 => ?_) (fun c1 => ?_)
  · replace hf := o_t c1 hf
    refine lv_iload_n hx hb dX4_magnitude_10 rfl (lv_at hl 0 rfl) ?_
    have q0 := Option.some.inj hf
    subst q0
    exact g_siret hx hb hr hlocks dX4_magnitude_11
  · replace hf := o_f c1 hf
    refine lv_iconst (v := (-1)) hx hb dX4_magnitude_4 (by decide) ?_
    refine lv_iload_n hx hb dX4_magnitude_5 rfl (lv_at hl 0 rfl) ?_
    refine lv_isub hx hb dX4_magnitude_6 ?_
    refine lv_goto (tgt := 11) hx hb dX4_magnitude_7 (by decide) ?_
    have q0 := Option.some.inj hf
    subst q0
    exact g_siret hx hb hr hlocks dX4_magnitude_11
set_option maxHeartbeats 4000000 in
set_option maxRecDepth 100000 in
theorem c_X4_magnitude (l : Launch) {x0 : Int32} {r : Int32} (hf : f_X4_magnitude x0 = some r) : Met l yX4_magnitude wsX4_magnitude rm_X4_magnitude (g_PS [.int x0]) (g_SI r) 0 0 (fun _ => False) := by
  refine g_metS (cc := cX4_magnitude) (maxL := 1) (ret := (some .int)) (by decide) rfl ?_
  intro p e s m below meth c C0
  have hl := lv_entry ([.int x0]) (n := 1) (Nat.le_of_ble_eq_true rfl)
  rw [lg_entry_eq]
  generalize (lg_sl ([.int x0]) ++ List.replicate (1 - (lg_sl ([.int x0])).length) Slot.unset).toArray = ls at hl ⊢
  have hl : lv_has ls 1 [(0, .int x0)] := hl
  exact w_X4_magnitude_B0 C0 x0 ls hf (lv_sub hl [0] rfl)
/-! FloatBoxes$Floats.significand(I)I -/
abbrev rm_X1_significand : Room := { frames := 0, cells := 0, slots := 0, locals := 0 }
def f_X1_significand  (x0 : Int32) : Option (Int32) :=
  if 8388608 ≤ x0 then
    some (8388608 + (x0 &&& (8388608 - 1)))
  else
    some x0
set_option maxHeartbeats 4000000 in
set_option maxRecDepth 100000 in
theorem w_X1_significand_B0 {p : Program} {l : Launch} {e : Env} {s : State} {m : MethodId} {args : Array Value} {below : List Frame} {meth : Method} {c : Code} {r : Int32} (C0 : g_cx cX1_significand (some .int) 2 RX1 wsX1_significand p s m args meth c) : ∀ (x0 : Int32) (ls : Array Slot), f_X1_significand x0 = some r → lv_has ls 2 [(0, .int x0)] → W p l e rm_X1_significand s m args below meth c s.heap [] 0 0 (MQ below (g_SI r) args s 0 0 (fun _ => False)) (F0 m 0 ls []) := by
  obtain ⟨hx, hb, hr, hml, hown, hts, hlocks⟩ := id C0
  intro x0 ls hf hl
  unfold f_X1_significand at hf
  refine lv_ldc (v := 8388608) hx hb hown (hts (.constant RX1 55 (8388608)) (List.mem_cons_of_mem _ (List.mem_of_getElem? (i := 0) rfl))) dX1_significand_0 ?_
  refine lv_istore_n (lv' := [(1, .int 8388608), (0, .int x0)]) hx hb dX1_significand_2 rfl hl (by decide) rfl (fun ls hl => ?_)
  refine lv_iload_n hx hb dX1_significand_3 rfl (lv_at hl 1 rfl) ?_
  refine lv_iload_n hx hb dX1_significand_4 rfl (lv_at hl 0 rfl) ?_
  refine lv_icmp_ge (tgt := 12) hx hb dX1_significand_5 (by decide) (fun c5 => ?_) (fun c5 => ?_)
  · replace hf := o_t c5 hf
    refine lv_iload_n hx hb dX1_significand_12 rfl (lv_at hl 0 rfl) ?_
    refine lv_iload_n hx hb dX1_significand_13 rfl (lv_at hl 1 rfl) ?_
    refine lv_iload_n hx hb dX1_significand_14 rfl (lv_at hl 0 rfl) ?_
    refine lv_iconst (v := 1) hx hb dX1_significand_15 (by decide) ?_
    refine lv_isub hx hb dX1_significand_16 ?_
    refine lv_iand hx hb dX1_significand_17 ?_
    refine lv_iadd hx hb dX1_significand_18 ?_
    have q0 := Option.some.inj hf
    subst q0
    exact g_siret hx hb hr hlocks dX1_significand_19
  · replace hf := o_f c5 hf
    refine lv_iload_n hx hb dX1_significand_8 rfl (lv_at hl 1 rfl) ?_
    refine lv_goto (tgt := 19) hx hb dX1_significand_9 (by decide) ?_
    have q0 := Option.some.inj hf
    subst q0
    exact g_siret hx hb hr hlocks dX1_significand_19
set_option maxHeartbeats 4000000 in
set_option maxRecDepth 100000 in
theorem c_X1_significand (l : Launch) {x0 : Int32} {r : Int32} (hf : f_X1_significand x0 = some r) : Met l yX1_significand wsX1_significand rm_X1_significand (g_PS [.int x0]) (g_SI r) 0 0 (fun _ => False) := by
  refine g_metS (cc := cX1_significand) (maxL := 2) (ret := (some .int)) (by decide) rfl ?_
  intro p e s m below meth c C0
  have hl := lv_entry ([.int x0]) (n := 2) (Nat.le_of_ble_eq_true rfl)
  rw [lg_entry_eq]
  generalize (lg_sl ([.int x0]) ++ List.replicate (2 - (lg_sl ([.int x0])).length) Slot.unset).toArray = ls at hl ⊢
  have hl : lv_has ls 2 [(0, .int x0)] := hl
  exact w_X1_significand_B0 C0 x0 ls hf (lv_sub hl [0] rfl)
/-! FloatBoxes$Floats.exponent(I)I -/
abbrev rm_X1_exponent : Room := { frames := 1, cells := 0, slots := 0, locals := 21 }
def f_X1_exponent  (x0 : Int32) : Option (Int32) :=
  some (o_max (x0 >>> ((23 : Int32) &&& 31)) 1)
set_option maxHeartbeats 4000000 in
set_option maxRecDepth 100000 in
theorem w_X1_exponent_B0 {p : Program} {l : Launch} {e : Env} {s : State} {m : MethodId} {args : Array Value} {below : List Frame} {meth : Method} {c : Code} {r : Int32} (C0 : g_cx cX1_exponent (some .int) 1 RX1 wsX1_exponent p s m args meth c) : ∀ (x0 : Int32) (ls : Array Slot), f_X1_exponent x0 = some r → lv_has ls 1 [(0, .int x0)] → W p l e rm_X1_exponent s m args below meth c s.heap [] 0 0 (MQ below (g_SI r) args s 0 0 (fun _ => False)) (F0 m 0 ls []) := by
  obtain ⟨hx, hb, hr, hml, hown, hts, hlocks⟩ := id C0
  intro x0 ls hf hl
  unfold f_X1_exponent at hf
  refine lv_iload_n hx hb dX1_exponent_0 rfl (lv_at hl 0 rfl) ?_
  refine lv_bipush (v := 23) hx hb dX1_exponent_1 (by decide) ?_
  refine lv_ishr hx hb dX1_exponent_3 ?_
  refine lv_iconst (v := 1) hx hb dX1_exponent_4 (by decide) ?_
  refine va_mmax hx hb (by rw [hml]; exact hl.1.symm) hown (hts (.methodLink RX1 28 Lib.Math.max.name) (List.mem_cons_of_mem _ (List.mem_of_getElem? (i := 0) rfl))) (hts (.static Lib.Math.max.name) (List.mem_cons_of_mem _ (List.mem_of_getElem? (i := 1) rfl))) (hts (.initialized "java/lang/Math") (List.mem_cons_of_mem _ (List.mem_of_getElem? (i := 2) rfl))) (hts (.code Lib.Math.max.name Lib.Math.max.code 2 (some .int)) (List.mem_cons_of_mem _ (List.mem_of_getElem? (i := 3) rfl))) (Nat.le_of_ble_eq_true rfl) (Nat.le_of_ble_eq_true rfl) (Nat.zero_le _) (Nat.zero_le _) dX1_exponent_5 ?_
  have q0 := Option.some.inj hf
  subst q0
  exact g_siret hx hb hr hlocks dX1_exponent_8
set_option maxHeartbeats 4000000 in
set_option maxRecDepth 100000 in
theorem c_X1_exponent (l : Launch) {x0 : Int32} {r : Int32} (hf : f_X1_exponent x0 = some r) : Met l yX1_exponent wsX1_exponent rm_X1_exponent (g_PS [.int x0]) (g_SI r) 0 0 (fun _ => False) := by
  refine g_metS (cc := cX1_exponent) (maxL := 1) (ret := (some .int)) (by decide) rfl ?_
  intro p e s m below meth c C0
  have hl := lv_entry ([.int x0]) (n := 1) (Nat.le_of_ble_eq_true rfl)
  rw [lg_entry_eq]
  generalize (lg_sl ([.int x0]) ++ List.replicate (1 - (lg_sl ([.int x0])).length) Slot.unset).toArray = ls at hl ⊢
  have hl : lv_has ls 1 [(0, .int x0)] := hl
  exact w_X1_exponent_B0 C0 x0 ls hf (lv_sub hl [0] rfl)
/-! FloatBoxes$Floats.toDouble(I)J -/
abbrev rm_X1_toDouble : Room := { frames := 2, cells := 0, slots := 0, locals := 43 }
def f_X1_toDouble_B16  (x1 : Int32) (z0 : Int64) : Option (Int64) :=
  if x1 = 0 then
    some z0
  else
    o_b1 (f_X1_significand x1) (fun (r24 : Int32) =>
    o_b1 (f_J13_numberOfLeadingZeros_95d88 r24.toInt64) (fun (r32 : Int32) =>
    o_nm (r32 - 11) (fun (t38 : Int32) =>
    o_b1 (f_X1_exponent x1) (fun (r41 : Int32) =>
    o_nm ((((r41 - 150) + 1075) - t38).toInt64) (fun (t56 : Int64) =>
    some ((z0 + ((t56 - 1) <<< ((52 : Int32).toInt64 &&& 63))) + (r24.toInt64 <<< (t38.toInt64 &&& 63))))))))
set_option maxHeartbeats 4000000 in
set_option maxRecDepth 100000 in
theorem w_X1_toDouble_B16 {p : Program} {l : Launch} {e : Env} {s : State} {m : MethodId} {args : Array Value} {below : List Frame} {meth : Method} {c : Code} {r : Int64} (C0 : g_cx cX1_toDouble (some .long) 9 RX1 wsX1_toDouble p s m args meth c) : ∀ (x1 : Int32) (z0 : Int64) (ls : Array Slot), f_X1_toDouble_B16 x1 z0 = some r → lv_has ls 9 [(1, .int x1)] → W p l e rm_X1_toDouble s m args below meth c s.heap [] 0 0 (MQ below (g_SL r) args s 0 0 (fun _ => False)) (F0 m 16 ls [.long z0]) := by
  obtain ⟨hx, hb, hr, hml, hown, hts, hlocks⟩ := id C0
  intro x1 z0 ls hf hl
  unfold f_X1_toDouble_B16 at hf
  refine lv_lstore_n (lv' := [(2, .long z0), (1, .int x1)]) hx hb dX1_toDouble_16 rfl hl (by decide) rfl (fun ls hl => ?_)
  refine lv_iload_n hx hb dX1_toDouble_17 rfl (lv_at hl 1 rfl) ?_
  refine lv_if_ne (tgt := 23) hx hb dX1_toDouble_18 (by decide) (fun c18 => ?_) (fun c18 => ?_)
  · replace hf := o_f c18 hf
    refine lv_iload_n hx hb dX1_toDouble_23 rfl (lv_at hl 1 rfl) ?_
    obtain ⟨r24, hg24, hf⟩ := o_b1_go hf
    refine g_callSi (rest := []) ⟨hx, hb, hml, hown, hts⟩ (c_X1_significand l hg24) (va_cwS 1 hts gX1_toDouble_X1_significand rfl rfl rfl (by decide +kernel) ⟨Nat.le_of_ble_eq_true rfl, Nat.le_of_ble_eq_true rfl⟩) rfl hl.1 rfl (Nat.le_of_ble_eq_true rfl) dX1_toDouble_24 ?_
    refine lv_i2l hx hb dX1_toDouble_27 rfl ?_
    refine lv_lstore (lv' := [(4, .long r24.toInt64), (2, .long z0), (1, .int x1)]) hx hb dX1_toDouble_28 hl (by decide) rfl (fun ls hl => ?_)
    refine lv_lload hx hb dX1_toDouble_30 (lv_at hl 0 rfl) ?_
    obtain ⟨r32, hg32, hf⟩ := o_b1_go hf
    refine g_callSi (rest := []) ⟨hx, hb, hml, hown, hts⟩ (c_J13_numberOfLeadingZeros_95d88 l hg32) (va_cwS 1 hts gX1_toDouble_J13_numberOfLeadingZeros_95d88 rfl rfl rfl (by decide +kernel) ⟨Nat.le_of_ble_eq_true rfl, Nat.le_of_ble_eq_true rfl⟩) rfl hl.1 rfl (Nat.le_of_ble_eq_true rfl) dX1_toDouble_32 ?_
    refine lv_bipush (v := 11) hx hb dX1_toDouble_35 (by decide) ?_
    refine lv_isub hx hb dX1_toDouble_37 ?_
    refine lv_topi (fun t38 et38 => ?_)
    replace hf := o_nm_go et38 hf
    refine lv_istore (lv' := [(6, .int t38), (4, .long r24.toInt64), (2, .long z0), (1, .int x1)]) hx hb dX1_toDouble_38 hl (by decide) rfl (fun ls hl => ?_)
    refine lv_iload_n hx hb dX1_toDouble_40 rfl (lv_at hl 3 rfl) ?_
    obtain ⟨r41, hg41, hf⟩ := o_b1_go hf
    refine g_callSi (rest := []) ⟨hx, hb, hml, hown, hts⟩ (c_X1_exponent l hg41) (va_cwS 1 hts gX1_toDouble_X1_exponent rfl rfl rfl (by decide +kernel) ⟨Nat.le_of_ble_eq_true rfl, Nat.le_of_ble_eq_true rfl⟩) rfl hl.1 rfl (Nat.le_of_ble_eq_true rfl) dX1_toDouble_41 ?_
    refine lv_sipush (v := 150) hx hb dX1_toDouble_44 (by decide) ?_
    refine lv_isub hx hb dX1_toDouble_47 ?_
    refine lv_sipush (v := 1075) hx hb dX1_toDouble_48 (by decide) ?_
    refine lv_iadd hx hb dX1_toDouble_51 ?_
    refine lv_iload hx hb dX1_toDouble_52 (lv_at hl 0 rfl) ?_
    refine lv_isub hx hb dX1_toDouble_54 ?_
    refine lv_i2l hx hb dX1_toDouble_55 rfl ?_
    refine lv_topl (fun t56 et56 => ?_)
    replace hf := o_nm_go et56 hf
    refine lv_lstore (lv' := [(7, .long t56), (6, .int t38), (4, .long r24.toInt64), (2, .long z0), (1, .int x1)]) hx hb dX1_toDouble_56 hl (by decide) rfl (fun ls hl => ?_)
    refine lv_lload_n hx hb dX1_toDouble_58 rfl (lv_at hl 3 rfl) ?_
    refine lv_lload hx hb dX1_toDouble_59 (lv_at hl 0 rfl) ?_
    refine lv_lconst (v := 1) hx hb dX1_toDouble_61 (by decide) ?_
    refine lv_lsub hx hb dX1_toDouble_62 ?_
    refine lv_bipush (v := 52) hx hb dX1_toDouble_63 (by decide) ?_
    refine lv_lshl hx hb dX1_toDouble_65 rfl ?_
    refine lv_ladd hx hb dX1_toDouble_66 ?_
    refine lv_lload hx hb dX1_toDouble_67 (lv_at hl 2 rfl) ?_
    refine lv_iload hx hb dX1_toDouble_69 (lv_at hl 1 rfl) ?_
    refine lv_lshl hx hb dX1_toDouble_71 rfl ?_
    refine lv_ladd hx hb dX1_toDouble_72 ?_
    have q0 := Option.some.inj hf
    subst q0
    exact g_slret hx hb hr hlocks dX1_toDouble_73
  · replace hf := o_t c18 hf
    refine lv_lload_n hx hb dX1_toDouble_21 rfl (lv_at hl 0 rfl) ?_
    have q0 := Option.some.inj hf
    subst q0
    exact g_slret hx hb hr hlocks dX1_toDouble_22
def f_X1_toDouble  (x0 : Int32) : Option (Int64) :=
  o_b1 (f_X4_magnitude x0) (fun (r1 : Int32) =>
  if 0 ≤ x0 then
    f_X1_toDouble_B16 r1 0
  else
    f_X1_toDouble_B16 r1 ((-9223372036854775808)))
set_option maxHeartbeats 4000000 in
set_option maxRecDepth 100000 in
theorem w_X1_toDouble_B0 {p : Program} {l : Launch} {e : Env} {s : State} {m : MethodId} {args : Array Value} {below : List Frame} {meth : Method} {c : Code} {r : Int64} (C0 : g_cx cX1_toDouble (some .long) 9 RX1 wsX1_toDouble p s m args meth c) : ∀ (x0 : Int32) (ls : Array Slot), f_X1_toDouble x0 = some r → lv_has ls 9 [(0, .int x0)] → W p l e rm_X1_toDouble s m args below meth c s.heap [] 0 0 (MQ below (g_SL r) args s 0 0 (fun _ => False)) (F0 m 0 ls []) := by
  obtain ⟨hx, hb, hr, hml, hown, hts, hlocks⟩ := id C0
  intro x0 ls hf hl
  unfold f_X1_toDouble at hf
  refine lv_iload_n hx hb dX1_toDouble_0 rfl (lv_at hl 0 rfl) ?_
  obtain ⟨r1, hg1, hf⟩ := o_b1_go hf
  refine g_callSi (rest := []) ⟨hx, hb, hml, hown, hts⟩ (c_X4_magnitude l hg1) (va_cwS 1 hts gX1_toDouble_X4_magnitude rfl rfl rfl (by decide +kernel) ⟨Nat.le_of_ble_eq_true rfl, Nat.le_of_ble_eq_true rfl⟩) rfl hl.1 rfl (Nat.le_of_ble_eq_true rfl) dX1_toDouble_1 ?_
  refine lv_istore_n (lv' := [(1, .int r1), (0, .int x0)]) hx hb dX1_toDouble_4 rfl hl (by decide) rfl (fun ls hl => ?_)
  refine lv_iload_n hx hb dX1_toDouble_5 rfl (lv_at hl 1 rfl) ?_
  refine lv_if_ge (tgt := 15) hx hb dX1_toDouble_6 (by decide) (fun c6 => ?_) (fun c6 => ?_)
  · replace hf := o_t c6 hf
    refine lv_lconst (v := 0) hx hb dX1_toDouble_15 (by decide) ?_
    exact w_X1_toDouble_B16 C0 r1 0 ls hf (lv_sub hl [0] rfl)
  · replace hf := o_f c6 hf
    refine lv_ldc2 (v := (-9223372036854775808)) hx hb hown (hts (.constantLong RX1 38 (-9223372036854775808)) (List.mem_cons_of_mem _ (List.mem_append_left _ (List.mem_of_getElem? (i := 0) rfl)))) dX1_toDouble_9 ?_
    refine lv_goto (tgt := 16) hx hb dX1_toDouble_12 (by decide) ?_
    exact w_X1_toDouble_B16 C0 r1 ((-9223372036854775808)) ls hf (lv_sub hl [0] rfl)
set_option maxHeartbeats 4000000 in
set_option maxRecDepth 100000 in
theorem c_X1_toDouble (l : Launch) {x0 : Int32} {r : Int64} (hf : f_X1_toDouble x0 = some r) : Met l yX1_toDouble wsX1_toDouble rm_X1_toDouble (g_PS [.int x0]) (g_SL r) 0 0 (fun _ => False) := by
  refine g_metS (cc := cX1_toDouble) (maxL := 9) (ret := (some .long)) (by decide) rfl ?_
  intro p e s m below meth c C0
  have hl := lv_entry ([.int x0]) (n := 9) (Nat.le_of_ble_eq_true rfl)
  rw [lg_entry_eq]
  generalize (lg_sl ([.int x0]) ++ List.replicate (9 - (lg_sl ([.int x0])).length) Slot.unset).toArray = ls at hl ⊢
  have hl : lv_has ls 9 [(0, .int x0)] := hl
  exact w_X1_toDouble_B0 C0 x0 ls hf (lv_sub hl [0] rfl)
/-! FloatBoxes$Floats.sum(II)I -/
abbrev rm_X1_sum : Room := { frames := 3, cells := 0, slots := 0, locals := 74 }
def f_X1_sum_B161  (x6 : Int32) (z0 : Int32) (z1 : Int64) : Option (Int32) :=
  o_b1 (f_X1_exponent x6) (fun (r163 : Int32) =>
  o_b1 (f_X1_rounded z0 z1 r163) (fun (r166 : Int32) =>
  some r166))
set_option maxHeartbeats 4000000 in
set_option maxRecDepth 100000 in
theorem w_X1_sum_B161 {p : Program} {l : Launch} {e : Env} {s : State} {m : MethodId} {args : Array Value} {below : List Frame} {meth : Method} {c : Code} {r : Int32} (C0 : g_cx cX1_sum (some .int) 13 RX1 wsX1_sum p s m args meth c) : ∀ (x6 : Int32) (z0 : Int32) (z1 : Int64) (ls : Array Slot), f_X1_sum_B161 x6 z0 z1 = some r → lv_has ls 13 [(6, .int x6)] → W p l e rm_X1_sum s m args below meth c s.heap [] 0 0 (MQ below (g_SI r) args s 0 0 (fun _ => False)) (F0 m 161 ls [.long z1, .int z0]) := by
  obtain ⟨hx, hb, hr, hml, hown, hts, hlocks⟩ := id C0
  intro x6 z0 z1 ls hf hl
  unfold f_X1_sum_B161 at hf
  refine lv_iload hx hb dX1_sum_161 (lv_at hl 0 rfl) ?_
  obtain ⟨r163, hg163, hf⟩ := o_b1_go hf
  refine g_callSi (rest := [.long z1, .int z0]) ⟨hx, hb, hml, hown, hts⟩ (c_X1_exponent l hg163) (va_cwS 1 hts gX1_sum_X1_exponent rfl rfl rfl (by decide +kernel) ⟨Nat.le_of_ble_eq_true rfl, Nat.le_of_ble_eq_true rfl⟩) rfl hl.1 rfl (Nat.le_of_ble_eq_true rfl) dX1_sum_163 ?_
  obtain ⟨r166, hg166, hf⟩ := o_b1_go hf
  refine g_callSi (rest := []) ⟨hx, hb, hml, hown, hts⟩ (c_X1_rounded l hg166) (va_cwS 3 hts gX1_sum_X1_rounded rfl rfl rfl (by decide +kernel) ⟨Nat.le_of_ble_eq_true rfl, Nat.le_of_ble_eq_true rfl⟩) rfl hl.1 rfl (Nat.le_of_ble_eq_true rfl) dX1_sum_166 ?_
  have q0 := Option.some.inj hf
  subst q0
  exact g_siret hx hb hr hlocks dX1_sum_169
def f_X1_sum_B143  (x6 : Int32) (x8 : Int32) (x9 : Int64) (x11 : Int64) (z0 : Int32) : Option (Int32) :=
  if x8 = 0 then
    f_X1_sum_B161 x6 z0 (x9 - x11)
  else
    f_X1_sum_B161 x6 z0 (x9 + x11)
set_option maxHeartbeats 4000000 in
set_option maxRecDepth 100000 in
theorem w_X1_sum_B143 {p : Program} {l : Launch} {e : Env} {s : State} {m : MethodId} {args : Array Value} {below : List Frame} {meth : Method} {c : Code} {r : Int32} (C0 : g_cx cX1_sum (some .int) 13 RX1 wsX1_sum p s m args meth c) : ∀ (x6 : Int32) (x8 : Int32) (x9 : Int64) (x11 : Int64) (z0 : Int32) (ls : Array Slot), f_X1_sum_B143 x6 x8 x9 x11 z0 = some r → lv_has ls 13 [(6, .int x6), (8, .int x8), (9, .long x9), (11, .long x11)] → W p l e rm_X1_sum s m args below meth c s.heap [] 0 0 (MQ below (g_SI r) args s 0 0 (fun _ => False)) (F0 m 143 ls [.int z0]) := by
  obtain ⟨hx, hb, hr, hml, hown, hts, hlocks⟩ := id C0
  intro x6 x8 x9 x11 z0 ls hf hl
  unfold f_X1_sum_B143 at hf
  refine lv_iload hx hb dX1_sum_143 (lv_at hl 1 rfl) ?_
  refine lv_if_eq (tgt := 156) hx hb dX1_sum_145 (by decide) (fun c145 => ?_) (fun c145 => ?_)
  · replace hf := o_t c145 hf
    refine lv_lload hx hb dX1_sum_156 (lv_at hl 2 rfl) ?_
    refine lv_lload hx hb dX1_sum_158 (lv_at hl 3 rfl) ?_
    refine lv_lsub hx hb dX1_sum_160 ?_
    exact w_X1_sum_B161 C0 x6 z0 (x9 - x11) ls hf (lv_sub hl [0] rfl)
  · replace hf := o_f c145 hf
    refine lv_lload hx hb dX1_sum_148 (lv_at hl 2 rfl) ?_
    refine lv_lload hx hb dX1_sum_150 (lv_at hl 3 rfl) ?_
    refine lv_ladd hx hb dX1_sum_152 ?_
    refine lv_goto (tgt := 161) hx hb dX1_sum_153 (by decide) ?_
    exact w_X1_sum_B161 C0 x6 z0 (x9 + x11) ls hf (lv_sub hl [0] rfl)
def f_X1_sum_B115  (x3 : Int32) (x5 : Int32) (x6 : Int32) (x7 : Int32) (x8 : Int32) : Option (Int32) :=
  o_b1 (f_X1_significand x5) (fun (r117 : Int32) =>
  o_nm (r117.toInt64 <<< (x7.toInt64 &&& 63)) (fun (t124 : Int64) =>
  o_b1 (f_X1_significand x6) (fun (r128 : Int32) =>
  if 0 ≤ x3 then
    f_X1_sum_B143 x6 x8 t124 r128.toInt64 0
  else
    f_X1_sum_B143 x6 x8 t124 r128.toInt64 1)))
set_option maxHeartbeats 4000000 in
set_option maxRecDepth 100000 in
theorem w_X1_sum_B115 {p : Program} {l : Launch} {e : Env} {s : State} {m : MethodId} {args : Array Value} {below : List Frame} {meth : Method} {c : Code} {r : Int32} (C0 : g_cx cX1_sum (some .int) 13 RX1 wsX1_sum p s m args meth c) : ∀ (x3 : Int32) (x5 : Int32) (x6 : Int32) (x7 : Int32) (x8 : Int32) (ls : Array Slot), f_X1_sum_B115 x3 x5 x6 x7 x8 = some r → lv_has ls 13 [(3, .int x3), (5, .int x5), (6, .int x6), (7, .int x7), (8, .int x8)] → W p l e rm_X1_sum s m args below meth c s.heap [] 0 0 (MQ below (g_SI r) args s 0 0 (fun _ => False)) (F0 m 115 ls []) := by
  obtain ⟨hx, hb, hr, hml, hown, hts, hlocks⟩ := id C0
  intro x3 x5 x6 x7 x8 ls hf hl
  unfold f_X1_sum_B115 at hf
  refine lv_iload hx hb dX1_sum_115 (lv_at hl 1 rfl) ?_
  obtain ⟨r117, hg117, hf⟩ := o_b1_go hf
  refine g_callSi (rest := []) ⟨hx, hb, hml, hown, hts⟩ (c_X1_significand l hg117) (va_cwS 1 hts gX1_sum_X1_significand rfl rfl rfl (by decide +kernel) ⟨Nat.le_of_ble_eq_true rfl, Nat.le_of_ble_eq_true rfl⟩) rfl hl.1 rfl (Nat.le_of_ble_eq_true rfl) dX1_sum_117 ?_
  refine lv_i2l hx hb dX1_sum_120 rfl ?_
  refine lv_iload hx hb dX1_sum_121 (lv_at hl 3 rfl) ?_
  refine lv_lshl hx hb dX1_sum_123 rfl ?_
  refine lv_topl (fun t124 et124 => ?_)
  replace hf := o_nm_go et124 hf
  refine lv_lstore (lv' := [(9, .long t124), (3, .int x3), (5, .int x5), (6, .int x6), (7, .int x7), (8, .int x8)]) hx hb dX1_sum_124 hl (by decide) rfl (fun ls hl => ?_)
  refine lv_iload hx hb dX1_sum_126 (lv_at hl 3 rfl) ?_
  obtain ⟨r128, hg128, hf⟩ := o_b1_go hf
  refine g_callSi (rest := []) ⟨hx, hb, hml, hown, hts⟩ (c_X1_significand l hg128) (va_cwS 1 hts gX1_sum_X1_significand rfl rfl rfl (by decide +kernel) ⟨Nat.le_of_ble_eq_true rfl, Nat.le_of_ble_eq_true rfl⟩) rfl hl.1 rfl (Nat.le_of_ble_eq_true rfl) dX1_sum_128 ?_
  refine lv_i2l hx hb dX1_sum_131 rfl ?_
  refine lv_lstore (lv' := [(11, .long r128.toInt64), (9, .long t124), (3, .int x3), (5, .int x5), (6, .int x6), (7, .int x7), (8, .int x8)]) hx hb dX1_sum_132 hl (by decide) rfl (fun ls hl => ?_)
  refine lv_iload_n hx hb dX1_sum_134 rfl (lv_at hl 2 rfl) ?_
  refine lv_if_ge (tgt := 142) hx hb dX1_sum_135 (by decide) (fun c135 => ?_) (fun c135 => ?_)
  · replace hf := o_t c135 hf
    refine lv_iconst (v := 0) hx hb dX1_sum_142 (by decide) ?_
    exact w_X1_sum_B143 C0 x6 x8 t124 r128.toInt64 0 ls hf (lv_sub hl [4, 6, 1, 0] rfl)
  · replace hf := o_f c135 hf
    refine lv_iconst (v := 1) hx hb dX1_sum_138 (by decide) ?_
    refine lv_goto (tgt := 143) hx hb dX1_sum_139 (by decide) ?_
    exact w_X1_sum_B143 C0 x6 x8 t124 r128.toInt64 1 ls hf (lv_sub hl [4, 6, 1, 0] rfl)
def f_X1_sum_B99  (x3 : Int32) (x5 : Int32) (x6 : Int32) (x7 : Int32) (z0 : Int32) : Option (Int32) :=
  if x5 = x6 then
    if z0 = 0 then
      some 0
    else
      f_X1_sum_B115 x3 x5 x6 x7 z0
  else
    f_X1_sum_B115 x3 x5 x6 x7 z0
set_option maxHeartbeats 4000000 in
set_option maxRecDepth 100000 in
theorem w_X1_sum_B99 {p : Program} {l : Launch} {e : Env} {s : State} {m : MethodId} {args : Array Value} {below : List Frame} {meth : Method} {c : Code} {r : Int32} (C0 : g_cx cX1_sum (some .int) 13 RX1 wsX1_sum p s m args meth c) : ∀ (x3 : Int32) (x5 : Int32) (x6 : Int32) (x7 : Int32) (z0 : Int32) (ls : Array Slot), f_X1_sum_B99 x3 x5 x6 x7 z0 = some r → lv_has ls 13 [(3, .int x3), (5, .int x5), (6, .int x6), (7, .int x7)] → W p l e rm_X1_sum s m args below meth c s.heap [] 0 0 (MQ below (g_SI r) args s 0 0 (fun _ => False)) (F0 m 99 ls [.int z0]) := by
  obtain ⟨hx, hb, hr, hml, hown, hts, hlocks⟩ := id C0
  intro x3 x5 x6 x7 z0 ls hf hl
  unfold f_X1_sum_B99 at hf
  refine lv_istore (lv' := [(8, .int z0), (3, .int x3), (5, .int x5), (6, .int x6), (7, .int x7)]) hx hb dX1_sum_99 hl (by decide) rfl (fun ls hl => ?_)
  refine lv_iload hx hb dX1_sum_101 (lv_at hl 2 rfl) ?_
  refine lv_iload hx hb dX1_sum_103 (lv_at hl 3 rfl) ?_
  refine lv_icmp_ne (tgt := 115) hx hb dX1_sum_105 (by decide) (fun c105 => ?_) (fun c105 => ?_)
  · replace hf := o_f c105 hf
    exact w_X1_sum_B115 C0 x3 x5 x6 x7 z0 ls hf (lv_sub hl [1, 2, 3, 4, 0] rfl)
  · replace hf := o_t c105 hf
    refine lv_iload hx hb dX1_sum_108 (lv_at hl 0 rfl) ?_
    refine lv_if_ne (tgt := 115) hx hb dX1_sum_110 (by decide) (fun c110 => ?_) (fun c110 => ?_)
    · replace hf := o_f c110 hf
      exact w_X1_sum_B115 C0 x3 x5 x6 x7 z0 ls hf (lv_sub hl [1, 2, 3, 4, 0] rfl)
    · replace hf := o_t c110 hf
      refine lv_iconst (v := 0) hx hb dX1_sum_113 (by decide) ?_
      have q0 := Option.some.inj hf
      subst q0
      exact g_siret hx hb hr hlocks dX1_sum_114
def f_X1_sum_B91  (x3 : Int32) (x5 : Int32) (x6 : Int32) (x7 : Int32) (z0 : Int32) (z1 : Int32) : Option (Int32) :=
  if z0 = z1 then
    f_X1_sum_B99 x3 x5 x6 x7 1
  else
    f_X1_sum_B99 x3 x5 x6 x7 0
set_option maxHeartbeats 4000000 in
set_option maxRecDepth 100000 in
theorem w_X1_sum_B91 {p : Program} {l : Launch} {e : Env} {s : State} {m : MethodId} {args : Array Value} {below : List Frame} {meth : Method} {c : Code} {r : Int32} (C0 : g_cx cX1_sum (some .int) 13 RX1 wsX1_sum p s m args meth c) : ∀ (x3 : Int32) (x5 : Int32) (x6 : Int32) (x7 : Int32) (z0 : Int32) (z1 : Int32) (ls : Array Slot), f_X1_sum_B91 x3 x5 x6 x7 z0 z1 = some r → lv_has ls 13 [(3, .int x3), (5, .int x5), (6, .int x6), (7, .int x7)] → W p l e rm_X1_sum s m args below meth c s.heap [] 0 0 (MQ below (g_SI r) args s 0 0 (fun _ => False)) (F0 m 91 ls [.int z1, .int z0]) := by
  obtain ⟨hx, hb, hr, hml, hown, hts, hlocks⟩ := id C0
  intro x3 x5 x6 x7 z0 z1 ls hf hl
  unfold f_X1_sum_B91 at hf
  refine lv_icmp_ne (tgt := 98) hx hb dX1_sum_91 (by decide) (fun c91 => ?_) (fun c91 => ?_)
  · replace hf := o_f c91 hf
    refine lv_iconst (v := 0) hx hb dX1_sum_98 (by decide) ?_
    exact w_X1_sum_B99 C0 x3 x5 x6 x7 0 ls hf (lv_sub hl [0, 1, 2, 3] rfl)
  · replace hf := o_t c91 hf
    refine lv_iconst (v := 1) hx hb dX1_sum_94 (by decide) ?_
    refine lv_goto (tgt := 99) hx hb dX1_sum_95 (by decide) ?_
    exact w_X1_sum_B99 C0 x3 x5 x6 x7 1 ls hf (lv_sub hl [0, 1, 2, 3] rfl)
def f_X1_sum_B82  (x1 : Int32) (x3 : Int32) (x5 : Int32) (x6 : Int32) (x7 : Int32) (z0 : Int32) : Option (Int32) :=
  if 0 ≤ x1 then
    f_X1_sum_B91 x3 x5 x6 x7 z0 0
  else
    f_X1_sum_B91 x3 x5 x6 x7 z0 1
set_option maxHeartbeats 4000000 in
set_option maxRecDepth 100000 in
theorem w_X1_sum_B82 {p : Program} {l : Launch} {e : Env} {s : State} {m : MethodId} {args : Array Value} {below : List Frame} {meth : Method} {c : Code} {r : Int32} (C0 : g_cx cX1_sum (some .int) 13 RX1 wsX1_sum p s m args meth c) : ∀ (x1 : Int32) (x3 : Int32) (x5 : Int32) (x6 : Int32) (x7 : Int32) (z0 : Int32) (ls : Array Slot), f_X1_sum_B82 x1 x3 x5 x6 x7 z0 = some r → lv_has ls 13 [(1, .int x1), (3, .int x3), (5, .int x5), (6, .int x6), (7, .int x7)] → W p l e rm_X1_sum s m args below meth c s.heap [] 0 0 (MQ below (g_SI r) args s 0 0 (fun _ => False)) (F0 m 82 ls [.int z0]) := by
  obtain ⟨hx, hb, hr, hml, hown, hts, hlocks⟩ := id C0
  intro x1 x3 x5 x6 x7 z0 ls hf hl
  unfold f_X1_sum_B82 at hf
  refine lv_iload_n hx hb dX1_sum_82 rfl (lv_at hl 0 rfl) ?_
  refine lv_if_ge (tgt := 90) hx hb dX1_sum_83 (by decide) (fun c83 => ?_) (fun c83 => ?_)
  · replace hf := o_t c83 hf
    refine lv_iconst (v := 0) hx hb dX1_sum_90 (by decide) ?_
    exact w_X1_sum_B91 C0 x3 x5 x6 x7 z0 0 ls hf (lv_sub hl [1, 2, 3, 4] rfl)
  · replace hf := o_f c83 hf
    refine lv_iconst (v := 1) hx hb dX1_sum_86 (by decide) ?_
    refine lv_goto (tgt := 91) hx hb dX1_sum_87 (by decide) ?_
    exact w_X1_sum_B91 C0 x3 x5 x6 x7 z0 1 ls hf (lv_sub hl [1, 2, 3, 4] rfl)
def f_X1_sum_B36  (x0 : Int32) (x1 : Int32) (x3 : Int32) (z0 : Int32) : Option (Int32) :=
  o_b1 (f_X4_magnitude x3) (fun (r39 : Int32) =>
  o_b1 (f_X4_magnitude z0) (fun (r46 : Int32) =>
  o_b1 (f_X1_exponent r39) (fun (r53 : Int32) =>
  o_b1 (f_X1_exponent r46) (fun (r58 : Int32) =>
  o_nm (r53 - r58) (fun (t62 : Int32) =>
  if t62 ≤ 26 then
    if 0 ≤ x0 then
      f_X1_sum_B82 x1 x3 r39 r46 t62 0
    else
      f_X1_sum_B82 x1 x3 r39 r46 t62 1
  else
    some x3)))))
set_option maxHeartbeats 4000000 in
set_option maxRecDepth 100000 in
theorem w_X1_sum_B36 {p : Program} {l : Launch} {e : Env} {s : State} {m : MethodId} {args : Array Value} {below : List Frame} {meth : Method} {c : Code} {r : Int32} (C0 : g_cx cX1_sum (some .int) 13 RX1 wsX1_sum p s m args meth c) : ∀ (x0 : Int32) (x1 : Int32) (x3 : Int32) (z0 : Int32) (ls : Array Slot), f_X1_sum_B36 x0 x1 x3 z0 = some r → lv_has ls 13 [(0, .int x0), (1, .int x1), (3, .int x3)] → W p l e rm_X1_sum s m args below meth c s.heap [] 0 0 (MQ below (g_SI r) args s 0 0 (fun _ => False)) (F0 m 36 ls [.int z0]) := by
  obtain ⟨hx, hb, hr, hml, hown, hts, hlocks⟩ := id C0
  intro x0 x1 x3 z0 ls hf hl
  unfold f_X1_sum_B36 at hf
  refine lv_istore (lv' := [(4, .int z0), (0, .int x0), (1, .int x1), (3, .int x3)]) hx hb dX1_sum_36 hl (by decide) rfl (fun ls hl => ?_)
  refine lv_iload_n hx hb dX1_sum_38 rfl (lv_at hl 3 rfl) ?_
  obtain ⟨r39, hg39, hf⟩ := o_b1_go hf
  refine g_callSi (rest := []) ⟨hx, hb, hml, hown, hts⟩ (c_X4_magnitude l hg39) (va_cwS 1 hts gX1_sum_X4_magnitude rfl rfl rfl (by decide +kernel) ⟨Nat.le_of_ble_eq_true rfl, Nat.le_of_ble_eq_true rfl⟩) rfl hl.1 rfl (Nat.le_of_ble_eq_true rfl) dX1_sum_39 ?_
  refine lv_istore (lv' := [(5, .int r39), (4, .int z0), (0, .int x0), (1, .int x1), (3, .int x3)]) hx hb dX1_sum_42 hl (by decide) rfl (fun ls hl => ?_)
  refine lv_iload hx hb dX1_sum_44 (lv_at hl 1 rfl) ?_
  obtain ⟨r46, hg46, hf⟩ := o_b1_go hf
  refine g_callSi (rest := []) ⟨hx, hb, hml, hown, hts⟩ (c_X4_magnitude l hg46) (va_cwS 1 hts gX1_sum_X4_magnitude rfl rfl rfl (by decide +kernel) ⟨Nat.le_of_ble_eq_true rfl, Nat.le_of_ble_eq_true rfl⟩) rfl hl.1 rfl (Nat.le_of_ble_eq_true rfl) dX1_sum_46 ?_
  refine lv_istore (lv' := [(6, .int r46), (5, .int r39), (4, .int z0), (0, .int x0), (1, .int x1), (3, .int x3)]) hx hb dX1_sum_49 hl (by decide) rfl (fun ls hl => ?_)
  refine lv_iload hx hb dX1_sum_51 (lv_at hl 1 rfl) ?_
  obtain ⟨r53, hg53, hf⟩ := o_b1_go hf
  refine g_callSi (rest := []) ⟨hx, hb, hml, hown, hts⟩ (c_X1_exponent l hg53) (va_cwS 1 hts gX1_sum_X1_exponent rfl rfl rfl (by decide +kernel) ⟨Nat.le_of_ble_eq_true rfl, Nat.le_of_ble_eq_true rfl⟩) rfl hl.1 rfl (Nat.le_of_ble_eq_true rfl) dX1_sum_53 ?_
  refine lv_iload hx hb dX1_sum_56 (lv_at hl 0 rfl) ?_
  obtain ⟨r58, hg58, hf⟩ := o_b1_go hf
  refine g_callSi (rest := [.int r53]) ⟨hx, hb, hml, hown, hts⟩ (c_X1_exponent l hg58) (va_cwS 1 hts gX1_sum_X1_exponent rfl rfl rfl (by decide +kernel) ⟨Nat.le_of_ble_eq_true rfl, Nat.le_of_ble_eq_true rfl⟩) rfl hl.1 rfl (Nat.le_of_ble_eq_true rfl) dX1_sum_58 ?_
  refine lv_isub hx hb dX1_sum_61 ?_
  refine lv_topi (fun t62 et62 => ?_)
  replace hf := o_nm_go et62 hf
  refine lv_istore (lv' := [(7, .int t62), (6, .int r46), (5, .int r39), (4, .int z0), (0, .int x0), (1, .int x1), (3, .int x3)]) hx hb dX1_sum_62 hl (by decide) rfl (fun ls hl => ?_)
  refine lv_iload hx hb dX1_sum_64 (lv_at hl 0 rfl) ?_
  refine lv_bipush (v := 26) hx hb dX1_sum_66 (by decide) ?_
  refine lv_icmp_le (tgt := 73) hx hb dX1_sum_68 (by decide) (fun c68 => ?_) (fun c68 => ?_)
  · replace hf := o_t c68 hf
    refine lv_iload_n hx hb dX1_sum_73 rfl (lv_at hl 4 rfl) ?_
    refine lv_if_ge (tgt := 81) hx hb dX1_sum_74 (by decide) (fun c74 => ?_) (fun c74 => ?_)
    · replace hf := o_t c74 hf
      refine lv_iconst (v := 0) hx hb dX1_sum_81 (by decide) ?_
      exact w_X1_sum_B82 C0 x1 x3 r39 r46 t62 0 ls hf (lv_sub hl [5, 6, 2, 1, 0] rfl)
    · replace hf := o_f c74 hf
      refine lv_iconst (v := 1) hx hb dX1_sum_77 (by decide) ?_
      refine lv_goto (tgt := 82) hx hb dX1_sum_78 (by decide) ?_
      exact w_X1_sum_B82 C0 x1 x3 r39 r46 t62 1 ls hf (lv_sub hl [5, 6, 2, 1, 0] rfl)
  · replace hf := o_f c68 hf
    refine lv_iload_n hx hb dX1_sum_71 rfl (lv_at hl 6 rfl) ?_
    have q0 := Option.some.inj hf
    subst q0
    exact g_siret hx hb hr hlocks dX1_sum_72
def f_X1_sum_B26  (x0 : Int32) (x1 : Int32) (x2 : Int32) (z0 : Int32) : Option (Int32) :=
  if x2 = 0 then
    f_X1_sum_B36 x0 x1 z0 x0
  else
    f_X1_sum_B36 x0 x1 z0 x1
set_option maxHeartbeats 4000000 in
set_option maxRecDepth 100000 in
theorem w_X1_sum_B26 {p : Program} {l : Launch} {e : Env} {s : State} {m : MethodId} {args : Array Value} {below : List Frame} {meth : Method} {c : Code} {r : Int32} (C0 : g_cx cX1_sum (some .int) 13 RX1 wsX1_sum p s m args meth c) : ∀ (x0 : Int32) (x1 : Int32) (x2 : Int32) (z0 : Int32) (ls : Array Slot), f_X1_sum_B26 x0 x1 x2 z0 = some r → lv_has ls 13 [(0, .int x0), (1, .int x1), (2, .int x2)] → W p l e rm_X1_sum s m args below meth c s.heap [] 0 0 (MQ below (g_SI r) args s 0 0 (fun _ => False)) (F0 m 26 ls [.int z0]) := by
  obtain ⟨hx, hb, hr, hml, hown, hts, hlocks⟩ := id C0
  intro x0 x1 x2 z0 ls hf hl
  unfold f_X1_sum_B26 at hf
  refine lv_istore_n (lv' := [(3, .int z0), (0, .int x0), (1, .int x1), (2, .int x2)]) hx hb dX1_sum_26 rfl hl (by decide) rfl (fun ls hl => ?_)
  refine lv_iload_n hx hb dX1_sum_27 rfl (lv_at hl 3 rfl) ?_
  refine lv_if_eq (tgt := 35) hx hb dX1_sum_28 (by decide) (fun c28 => ?_) (fun c28 => ?_)
  · replace hf := o_t c28 hf
    refine lv_iload_n hx hb dX1_sum_35 rfl (lv_at hl 1 rfl) ?_
    exact w_X1_sum_B36 C0 x0 x1 z0 x0 ls hf (lv_sub hl [1, 2, 0] rfl)
  · replace hf := o_f c28 hf
    refine lv_iload_n hx hb dX1_sum_31 rfl (lv_at hl 2 rfl) ?_
    refine lv_goto (tgt := 36) hx hb dX1_sum_32 (by decide) ?_
    exact w_X1_sum_B36 C0 x0 x1 z0 x1 ls hf (lv_sub hl [1, 2, 0] rfl)
def f_X1_sum_B16  (x0 : Int32) (x1 : Int32) (z0 : Int32) : Option (Int32) :=
  if z0 = 0 then
    f_X1_sum_B26 x0 x1 z0 x1
  else
    f_X1_sum_B26 x0 x1 z0 x0
set_option maxHeartbeats 4000000 in
set_option maxRecDepth 100000 in
theorem w_X1_sum_B16 {p : Program} {l : Launch} {e : Env} {s : State} {m : MethodId} {args : Array Value} {below : List Frame} {meth : Method} {c : Code} {r : Int32} (C0 : g_cx cX1_sum (some .int) 13 RX1 wsX1_sum p s m args meth c) : ∀ (x0 : Int32) (x1 : Int32) (z0 : Int32) (ls : Array Slot), f_X1_sum_B16 x0 x1 z0 = some r → lv_has ls 13 [(0, .int x0), (1, .int x1)] → W p l e rm_X1_sum s m args below meth c s.heap [] 0 0 (MQ below (g_SI r) args s 0 0 (fun _ => False)) (F0 m 16 ls [.int z0]) := by
  obtain ⟨hx, hb, hr, hml, hown, hts, hlocks⟩ := id C0
  intro x0 x1 z0 ls hf hl
  unfold f_X1_sum_B16 at hf
  refine lv_istore_n (lv' := [(2, .int z0), (0, .int x0), (1, .int x1)]) hx hb dX1_sum_16 rfl hl (by decide) rfl (fun ls hl => ?_)
  refine lv_iload_n hx hb dX1_sum_17 rfl (lv_at hl 0 rfl) ?_
  refine lv_if_eq (tgt := 25) hx hb dX1_sum_18 (by decide) (fun c18 => ?_) (fun c18 => ?_)
  · replace hf := o_t c18 hf
    refine lv_iload_n hx hb dX1_sum_25 rfl (lv_at hl 2 rfl) ?_
    exact w_X1_sum_B26 C0 x0 x1 z0 x1 ls hf (lv_sub hl [1, 2, 0] rfl)
  · replace hf := o_f c18 hf
    refine lv_iload_n hx hb dX1_sum_21 rfl (lv_at hl 1 rfl) ?_
    refine lv_goto (tgt := 26) hx hb dX1_sum_22 (by decide) ?_
    exact w_X1_sum_B26 C0 x0 x1 z0 x0 ls hf (lv_sub hl [1, 2, 0] rfl)
def f_X1_sum  (x0 : Int32) (x1 : Int32) : Option (Int32) :=
  o_b1 (f_X4_magnitude x0) (fun (r1 : Int32) =>
  o_b1 (f_X4_magnitude x1) (fun (r5 : Int32) =>
  if r1 < r5 then
    f_X1_sum_B16 x0 x1 0
  else
    f_X1_sum_B16 x0 x1 1))
set_option maxHeartbeats 4000000 in
set_option maxRecDepth 100000 in
theorem w_X1_sum_B0 {p : Program} {l : Launch} {e : Env} {s : State} {m : MethodId} {args : Array Value} {below : List Frame} {meth : Method} {c : Code} {r : Int32} (C0 : g_cx cX1_sum (some .int) 13 RX1 wsX1_sum p s m args meth c) : ∀ (x0 : Int32) (x1 : Int32) (ls : Array Slot), f_X1_sum x0 x1 = some r → lv_has ls 13 [(0, .int x0), (1, .int x1)] → W p l e rm_X1_sum s m args below meth c s.heap [] 0 0 (MQ below (g_SI r) args s 0 0 (fun _ => False)) (F0 m 0 ls []) := by
  obtain ⟨hx, hb, hr, hml, hown, hts, hlocks⟩ := id C0
  intro x0 x1 ls hf hl
  unfold f_X1_sum at hf
  refine lv_iload_n hx hb dX1_sum_0 rfl (lv_at hl 0 rfl) ?_
  obtain ⟨r1, hg1, hf⟩ := o_b1_go hf
  refine g_callSi (rest := []) ⟨hx, hb, hml, hown, hts⟩ (c_X4_magnitude l hg1) (va_cwS 1 hts gX1_sum_X4_magnitude rfl rfl rfl (by decide +kernel) ⟨Nat.le_of_ble_eq_true rfl, Nat.le_of_ble_eq_true rfl⟩) rfl hl.1 rfl (Nat.le_of_ble_eq_true rfl) dX1_sum_1 ?_
  refine lv_iload_n hx hb dX1_sum_4 rfl (lv_at hl 1 rfl) ?_
  obtain ⟨r5, hg5, hf⟩ := o_b1_go hf
  refine g_callSi (rest := [.int r1]) ⟨hx, hb, hml, hown, hts⟩ (c_X4_magnitude l hg5) (va_cwS 1 hts gX1_sum_X4_magnitude rfl rfl rfl (by decide +kernel) ⟨Nat.le_of_ble_eq_true rfl, Nat.le_of_ble_eq_true rfl⟩) rfl hl.1 rfl (Nat.le_of_ble_eq_true rfl) dX1_sum_5 ?_
  refine lv_icmp_lt (tgt := 15) hx hb dX1_sum_8 (by decide) (fun c8 => ?_) (fun c8 => ?_)
  · replace hf := o_t c8 hf
    refine lv_iconst (v := 0) hx hb dX1_sum_15 (by decide) ?_
    exact w_X1_sum_B16 C0 x0 x1 0 ls hf (lv_sub hl [0, 1] rfl)
  · replace hf := o_f c8 hf
    refine lv_iconst (v := 1) hx hb dX1_sum_11 (by decide) ?_
    refine lv_goto (tgt := 16) hx hb dX1_sum_12 (by decide) ?_
    exact w_X1_sum_B16 C0 x0 x1 1 ls hf (lv_sub hl [0, 1] rfl)
set_option maxHeartbeats 4000000 in
set_option maxRecDepth 100000 in
theorem c_X1_sum (l : Launch) {x0 : Int32} {x1 : Int32} {r : Int32} (hf : f_X1_sum x0 x1 = some r) : Met l yX1_sum wsX1_sum rm_X1_sum (g_PS [.int x0, .int x1]) (g_SI r) 0 0 (fun _ => False) := by
  refine g_metS (cc := cX1_sum) (maxL := 13) (ret := (some .int)) (by decide) rfl ?_
  intro p e s m below meth c C0
  have hl := lv_entry ([.int x0, .int x1]) (n := 13) (Nat.le_of_ble_eq_true rfl)
  rw [lg_entry_eq]
  generalize (lg_sl ([.int x0, .int x1]) ++ List.replicate (13 - (lg_sl ([.int x0, .int x1])).length) Slot.unset).toArray = ls at hl ⊢
  have hl : lv_has ls 13 [(0, .int x0), (1, .int x1)] := hl
  exact w_X1_sum_B0 C0 x0 x1 ls hf (lv_sub hl [0, 1] rfl)
