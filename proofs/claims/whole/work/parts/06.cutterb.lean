/-! FloatBoxes$Cutter.cutFactor(III)V -/
abbrev rm_X0_cutFactor : Room := { frames := 5, cells := 0, slots := 0, locals := 127 }
abbrev ww_X0_cutFactor (cI cM : ClassId) (a_this a_this_low a_this_high : Nat) (v_cut : Int32) (v_empty : Int32) (v_high : Nat → Int32) (v_low : Nat → Int32) : va_W := [(a_this, .inr (0, [.ref a_this_low, .ref a_this_high, .int v_cut, .int v_empty])), (a_this_high, .inl (cI, 6, .inl v_high)), (a_this_low, .inl (cI, 6, .inl v_low))]
def f_X0_cutFactor_B212 (N : Nat) (k31 : Int32 → Int32 → (Nat → Int32) → (Nat → Int32) → Int32 → Int32 → Int32 → Int32 → Int32 → Int32 → Option (Int32 × Int32 × (Nat → Int32) × (Nat → Int32))) (v_cut : Int32) (v_empty : Int32) (v_high : Nat → Int32) (v_low : Nat → Int32) (x1 : Int32) (x2 : Int32) (x3 : Int32) (x4 : Int32) (x5 : Int32) (x6 : Int32) : Option (Int32 × Int32 × (Nat → Int32) × (Nat → Int32)) :=
  k31 v_cut v_empty v_high v_low x1 x2 x3 x4 x5 (x6 + 1)
set_option maxHeartbeats 4000000 in
set_option maxRecDepth 100000 in
theorem w_X0_cutFactor_B212 {p : Program} {l : Launch} {e : Env} {s : State} {m : MethodId} {args : Array Value} {below : List Frame} {meth : Method} {c : Code} {D : va_G} {cI cM : ClassId} {A : Nat → Prop} {a_this a_this_low a_this_high : Nat} {N : Nat} {o_cut : Int32} {o_empty : Int32} {o_high : Nat → Int32} {o_low : Nat → Int32} (C0 : g_cx cX0_cutFactor none 14 RX0 wsX0_cutFactor p s m args meth c) (hA : ∀ q, s.heap.size ≤ q → A q) (hK : va_K D vwCl (g_tys cI cM) s) (k31 : Int32 → Int32 → (Nat → Int32) → (Nat → Int32) → Int32 → Int32 → Int32 → Int32 → Int32 → Int32 → Option (Int32 × Int32 × (Nat → Int32) × (Nat → Int32))) (hk31 : ∀ (v_cut : Int32) (v_empty : Int32) (v_high : Nat → Int32) (v_low : Nat → Int32) (x1 : Int32) (x2 : Int32) (x3 : Int32) (x4 : Int32) (x5 : Int32) (x6 : Int32) (H : Heap) (locs : List Loc) (ls : Array Slot), k31 v_cut v_empty v_high v_low x1 x2 x3 x4 x5 x6 = some (o_cut, o_empty, o_high, o_low) → va_P D vwCl (ww_X0_cutFactor cI cM a_this a_this_low a_this_high v_cut v_empty v_high v_low) H → va_D A (ww_X0_cutFactor cI cM a_this a_this_low a_this_high v_cut v_empty v_high v_low) → va_S A s.heap H locs → lv_has ls 14 [(0, .ref a_this), (1, .int x1), (2, .int x2), (3, .int x3), (4, .int x4), (5, .int x5), (6, .int x6)] → W p l e rm_X0_cutFactor s m args below meth c H locs 0 0 (MQ below (g_QV D (g_tys cI cM) A (ww_X0_cutFactor cI cM a_this a_this_low a_this_high o_cut o_empty o_high o_low)) args s 0 0 A) (F0 m 31 ls [])) : ∀ (v_cut : Int32) (v_empty : Int32) (v_high : Nat → Int32) (v_low : Nat → Int32) (x1 : Int32) (x2 : Int32) (x3 : Int32) (x4 : Int32) (x5 : Int32) (x6 : Int32) (H : Heap) (locs : List Loc) (ls : Array Slot), f_X0_cutFactor_B212 N k31 v_cut v_empty v_high v_low x1 x2 x3 x4 x5 x6 = some (o_cut, o_empty, o_high, o_low) → va_P D vwCl (ww_X0_cutFactor cI cM a_this a_this_low a_this_high v_cut v_empty v_high v_low) H → va_D A (ww_X0_cutFactor cI cM a_this a_this_low a_this_high v_cut v_empty v_high v_low) → va_S A s.heap H locs → lv_has ls 14 [(0, .ref a_this), (1, .int x1), (2, .int x2), (3, .int x3), (4, .int x4), (5, .int x5), (6, .int x6)] → W p l e rm_X0_cutFactor s m args below meth c H locs 0 0 (MQ below (g_QV D (g_tys cI cM) A (ww_X0_cutFactor cI cM a_this a_this_low a_this_high o_cut o_empty o_high o_low)) args s 0 0 A) (F0 m 212 ls []) := by
  obtain ⟨hx, hb, hr, hml, hown, hts, hlocks⟩ := id C0
  intro v_cut v_empty v_high v_low x1 x2 x3 x4 x5 x6 H locs ls hf hP hD hS hl
  unfold f_X0_cutFactor_B212 at hf
  refine lv_iinc (v := x6 + 1) (lv' := [(6, .int (x6 + 1)), (0, .ref a_this), (1, .int x1), (2, .int x2), (3, .int x3), (4, .int x4), (5, .int x5)]) hx hb dX0_cutFactor_212 hl (k := 6) rfl rfl (by decide) rfl (fun ls hl => ?_)
  refine lv_goto (tgt := 31) hx hb dX0_cutFactor_215 (by decide) ?_
  exact hk31 v_cut v_empty v_high v_low x1 x2 x3 x4 x5 (x6 + 1) H locs ls hf hP hD hS (lv_sub hl [1, 2, 3, 4, 5, 6, 0] rfl)
def f_X0_cutFactor_B155 (N : Nat) (k31 : Int32 → Int32 → (Nat → Int32) → (Nat → Int32) → Int32 → Int32 → Int32 → Int32 → Int32 → Int32 → Option (Int32 × Int32 × (Nat → Int32) × (Nat → Int32))) (v_cut : Int32) (v_empty : Int32) (v_high : Nat → Int32) (v_low : Nat → Int32) (x1 : Int32) (x2 : Int32) (x3 : Int32) (x4 : Int32) (x5 : Int32) (x6 : Int32) (x8 : Int32) (x9 : Int32) (x10 : Int32) (z0 : Int32) : Option (Int32 × Int32 × (Nat → Int32) × (Nat → Int32)) :=
  o_b1 (f_X0_firstProduct N v_low v_high x1 x8 x9 x10) (fun (r165 : Int32) =>
  o_b1 (f_X0_firstProduct N v_low v_high x1 x9 x8 (z0 + 1)) (fun (r180 : Int32) =>
  o_nm (r180 - 1) (fun (t185 : Int32) =>
  if t185 < r165 then
    f_X0_cutFactor_B212 N k31 v_cut v_empty v_high v_low x1 x2 x3 x4 x5 x6
  else
    o_nm (o_min x4 r165) (fun (t201 : Int32) =>
    o_nm (o_max x5 t185) (fun (t210 : Int32) =>
    f_X0_cutFactor_B212 N k31 v_cut v_empty v_high v_low x1 x2 x3 t201 t210 x6)))))
set_option maxHeartbeats 4000000 in
set_option maxRecDepth 100000 in
theorem w_X0_cutFactor_B155 {p : Program} {l : Launch} {e : Env} {s : State} {m : MethodId} {args : Array Value} {below : List Frame} {meth : Method} {c : Code} {D : va_G} {cI cM : ClassId} {A : Nat → Prop} {a_this a_this_low a_this_high : Nat} {N : Nat} {o_cut : Int32} {o_empty : Int32} {o_high : Nat → Int32} {o_low : Nat → Int32} (C0 : g_cx cX0_cutFactor none 14 RX0 wsX0_cutFactor p s m args meth c) (hA : ∀ q, s.heap.size ≤ q → A q) (hK : va_K D vwCl (g_tys cI cM) s) (k31 : Int32 → Int32 → (Nat → Int32) → (Nat → Int32) → Int32 → Int32 → Int32 → Int32 → Int32 → Int32 → Option (Int32 × Int32 × (Nat → Int32) × (Nat → Int32))) (hk31 : ∀ (v_cut : Int32) (v_empty : Int32) (v_high : Nat → Int32) (v_low : Nat → Int32) (x1 : Int32) (x2 : Int32) (x3 : Int32) (x4 : Int32) (x5 : Int32) (x6 : Int32) (H : Heap) (locs : List Loc) (ls : Array Slot), k31 v_cut v_empty v_high v_low x1 x2 x3 x4 x5 x6 = some (o_cut, o_empty, o_high, o_low) → va_P D vwCl (ww_X0_cutFactor cI cM a_this a_this_low a_this_high v_cut v_empty v_high v_low) H → va_D A (ww_X0_cutFactor cI cM a_this a_this_low a_this_high v_cut v_empty v_high v_low) → va_S A s.heap H locs → lv_has ls 14 [(0, .ref a_this), (1, .int x1), (2, .int x2), (3, .int x3), (4, .int x4), (5, .int x5), (6, .int x6)] → W p l e rm_X0_cutFactor s m args below meth c H locs 0 0 (MQ below (g_QV D (g_tys cI cM) A (ww_X0_cutFactor cI cM a_this a_this_low a_this_high o_cut o_empty o_high o_low)) args s 0 0 A) (F0 m 31 ls [])) : ∀ (v_cut : Int32) (v_empty : Int32) (v_high : Nat → Int32) (v_low : Nat → Int32) (x1 : Int32) (x2 : Int32) (x3 : Int32) (x4 : Int32) (x5 : Int32) (x6 : Int32) (x8 : Int32) (x9 : Int32) (x10 : Int32) (z0 : Int32) (H : Heap) (locs : List Loc) (ls : Array Slot), f_X0_cutFactor_B155 N k31 v_cut v_empty v_high v_low x1 x2 x3 x4 x5 x6 x8 x9 x10 z0 = some (o_cut, o_empty, o_high, o_low) → va_P D vwCl (ww_X0_cutFactor cI cM a_this a_this_low a_this_high v_cut v_empty v_high v_low) H → va_D A (ww_X0_cutFactor cI cM a_this a_this_low a_this_high v_cut v_empty v_high v_low) → va_S A s.heap H locs → lv_has ls 14 [(0, .ref a_this), (1, .int x1), (2, .int x2), (3, .int x3), (4, .int x4), (5, .int x5), (6, .int x6), (8, .int x8), (9, .int x9), (10, .int x10)] → W p l e rm_X0_cutFactor s m args below meth c H locs 0 0 (MQ below (g_QV D (g_tys cI cM) A (ww_X0_cutFactor cI cM a_this a_this_low a_this_high o_cut o_empty o_high o_low)) args s 0 0 A) (F0 m 155 ls [.int z0]) := by
  obtain ⟨hx, hb, hr, hml, hown, hts, hlocks⟩ := id C0
  intro v_cut v_empty v_high v_low x1 x2 x3 x4 x5 x6 x8 x9 x10 z0 H locs ls hf hP hD hS hl
  unfold f_X0_cutFactor_B155 at hf
  refine lv_istore (lv' := [(11, .int z0), (0, .ref a_this), (1, .int x1), (2, .int x2), (3, .int x3), (4, .int x4), (5, .int x5), (6, .int x6), (8, .int x8), (9, .int x9), (10, .int x10)]) hx hb dX0_cutFactor_155 hl (by decide) rfl (fun ls hl => ?_)
  refine lv_aload_n hx hb dX0_cutFactor_157 rfl (lv_at hl 1 rfl) ?_
  refine lv_iload_n hx hb dX0_cutFactor_158 rfl (lv_at hl 2 rfl) ?_
  refine lv_iload hx hb dX0_cutFactor_159 (lv_at hl 8 rfl) ?_
  refine lv_iload hx hb dX0_cutFactor_161 (lv_at hl 9 rfl) ?_
  refine lv_iload hx hb dX0_cutFactor_163 (lv_at hl 10 rfl) ?_
  obtain ⟨r165, hg165, hf⟩ := o_b1_go hf
  refine g_callVi (wn := (ww_X0_cutFactor cI cM a_this a_this_low a_this_high v_cut v_empty v_high v_low)) (rest := []) ⟨hx, hb, hml, hown, hts⟩ (c_X0_firstProduct l D cI cM a_this a_this_low a_this_high H.size v_cut v_empty v_low v_high hg165) (cwV 4 hts gX0_cutFactor_X0_firstProduct rfl rfl rfl (by decide +kernel) ⟨Nat.le_of_ble_eq_true rfl, Nat.le_of_ble_eq_true rfl⟩) hK hP hD hS hA [0, 2, 1] [] [0, 2, 1] rfl rfl rfl rfl rfl rfl (by decide) rfl rfl rfl hl.1 rfl (Nat.le_of_ble_eq_true rfl) dX0_cutFactor_165 (fun H locs hP hD hS => ?_)
  refine lv_istore (lv' := [(12, .int r165), (11, .int z0), (0, .ref a_this), (1, .int x1), (2, .int x2), (3, .int x3), (4, .int x4), (5, .int x5), (6, .int x6), (8, .int x8), (9, .int x9), (10, .int x10)]) hx hb dX0_cutFactor_168 hl (by decide) rfl (fun ls hl => ?_)
  refine lv_aload_n hx hb dX0_cutFactor_170 rfl (lv_at hl 2 rfl) ?_
  refine lv_iload_n hx hb dX0_cutFactor_171 rfl (lv_at hl 3 rfl) ?_
  refine lv_iload hx hb dX0_cutFactor_172 (lv_at hl 10 rfl) ?_
  refine lv_iload hx hb dX0_cutFactor_174 (lv_at hl 9 rfl) ?_
  refine lv_iload hx hb dX0_cutFactor_176 (lv_at hl 1 rfl) ?_
  refine lv_iconst (v := 1) hx hb dX0_cutFactor_178 (by decide) ?_
  refine lv_iadd hx hb dX0_cutFactor_179 ?_
  obtain ⟨r180, hg180, hf⟩ := o_b1_go hf
  refine g_callVi (wn := (ww_X0_cutFactor cI cM a_this a_this_low a_this_high v_cut v_empty v_high v_low)) (rest := []) ⟨hx, hb, hml, hown, hts⟩ (c_X0_firstProduct l D cI cM a_this a_this_low a_this_high H.size v_cut v_empty v_low v_high hg180) (cwV 4 hts gX0_cutFactor_X0_firstProduct rfl rfl rfl (by decide +kernel) ⟨Nat.le_of_ble_eq_true rfl, Nat.le_of_ble_eq_true rfl⟩) hK hP hD hS hA [0, 2, 1] [] [0, 2, 1] rfl rfl rfl rfl rfl rfl (by decide) rfl rfl rfl hl.1 rfl (Nat.le_of_ble_eq_true rfl) dX0_cutFactor_180 (fun H locs hP hD hS => ?_)
  refine lv_iconst (v := 1) hx hb dX0_cutFactor_183 (by decide) ?_
  refine lv_isub hx hb dX0_cutFactor_184 ?_
  refine lv_topi (fun t185 et185 => ?_)
  replace hf := o_nm_go et185 hf
  refine lv_istore (lv' := [(13, .int t185), (12, .int r165), (11, .int z0), (0, .ref a_this), (1, .int x1), (2, .int x2), (3, .int x3), (4, .int x4), (5, .int x5), (6, .int x6), (8, .int x8), (9, .int x9), (10, .int x10)]) hx hb dX0_cutFactor_185 hl (by decide) rfl (fun ls hl => ?_)
  refine lv_iload hx hb dX0_cutFactor_187 (lv_at hl 1 rfl) ?_
  refine lv_iload hx hb dX0_cutFactor_189 (lv_at hl 0 rfl) ?_
  refine lv_icmp_gt (tgt := 212) hx hb dX0_cutFactor_191 (by decide) (fun c191 => ?_) (fun c191 => ?_)
  · replace hf := o_t c191 hf
    exact w_X0_cutFactor_B212 C0 hA hK k31 hk31 v_cut v_empty v_high v_low x1 x2 x3 x4 x5 x6 H locs ls hf hP hD hS (lv_sub hl [3, 4, 5, 6, 7, 8, 9] rfl)
  · replace hf := o_f c191 hf
    refine lv_iload hx hb dX0_cutFactor_194 (lv_at hl 7 rfl) ?_
    refine lv_iload hx hb dX0_cutFactor_196 (lv_at hl 1 rfl) ?_
    refine va_mmin hx hb (by rw [hml]; exact hl.1.symm) hown (hts (.methodLink RX0 75 Lib.Math.min.name) (List.mem_cons_of_mem _ (List.mem_append_left _ (List.mem_append_left _ (List.mem_of_getElem? (i := 7) rfl))))) (hts (.static Lib.Math.min.name) (List.mem_cons_of_mem _ (List.mem_append_left _ (List.mem_append_left _ (List.mem_of_getElem? (i := 8) rfl))))) (hts (.initialized "java/lang/Math") (List.mem_cons_of_mem _ (List.mem_append_left _ (List.mem_append_left _ (List.mem_of_getElem? (i := 5) rfl))))) (hts (.code Lib.Math.min.name Lib.Math.min.code 2 (some .int)) (List.mem_cons_of_mem _ (List.mem_append_left _ (List.mem_append_left _ (List.mem_of_getElem? (i := 9) rfl))))) (Nat.le_of_ble_eq_true rfl) (Nat.le_of_ble_eq_true rfl) (Nat.zero_le _) (Nat.zero_le _) dX0_cutFactor_198 ?_
    refine lv_topi (fun t201 et201 => ?_)
    replace hf := o_nm_go et201 hf
    refine lv_istore (lv' := [(4, .int t201), (13, .int t185), (12, .int r165), (11, .int z0), (0, .ref a_this), (1, .int x1), (2, .int x2), (3, .int x3), (5, .int x5), (6, .int x6), (8, .int x8), (9, .int x9), (10, .int x10)]) hx hb dX0_cutFactor_201 hl (by decide) rfl (fun ls hl => ?_)
    refine lv_iload hx hb dX0_cutFactor_203 (lv_at hl 8 rfl) ?_
    refine lv_iload hx hb dX0_cutFactor_205 (lv_at hl 1 rfl) ?_
    refine va_mmax hx hb (by rw [hml]; exact hl.1.symm) hown (hts (.methodLink RX0 69 Lib.Math.max.name) (List.mem_cons_of_mem _ (List.mem_append_left _ (List.mem_append_left _ (List.mem_of_getElem? (i := 3) rfl))))) (hts (.static Lib.Math.max.name) (List.mem_cons_of_mem _ (List.mem_append_left _ (List.mem_append_left _ (List.mem_of_getElem? (i := 4) rfl))))) (hts (.initialized "java/lang/Math") (List.mem_cons_of_mem _ (List.mem_append_left _ (List.mem_append_left _ (List.mem_of_getElem? (i := 5) rfl))))) (hts (.code Lib.Math.max.name Lib.Math.max.code 2 (some .int)) (List.mem_cons_of_mem _ (List.mem_append_left _ (List.mem_append_left _ (List.mem_of_getElem? (i := 6) rfl))))) (Nat.le_of_ble_eq_true rfl) (Nat.le_of_ble_eq_true rfl) (Nat.zero_le _) (Nat.zero_le _) dX0_cutFactor_207 ?_
    refine lv_topi (fun t210 et210 => ?_)
    replace hf := o_nm_go et210 hf
    refine lv_istore (lv' := [(5, .int t210), (4, .int t201), (13, .int t185), (12, .int r165), (11, .int z0), (0, .ref a_this), (1, .int x1), (2, .int x2), (3, .int x3), (6, .int x6), (8, .int x8), (9, .int x9), (10, .int x10)]) hx hb dX0_cutFactor_210 hl (by decide) rfl (fun ls hl => ?_)
    exact w_X0_cutFactor_B212 C0 hA hK k31 hk31 v_cut v_empty v_high v_low x1 x2 x3 t201 t210 x6 H locs ls hf hP hD hS (lv_sub hl [5, 6, 7, 8, 1, 0, 9] rfl)
def f_X0_cutFactor_B131 (N : Nat) (k31 : Int32 → Int32 → (Nat → Int32) → (Nat → Int32) → Int32 → Int32 → Int32 → Int32 → Int32 → Int32 → Option (Int32 × Int32 × (Nat → Int32) × (Nat → Int32))) (v_cut : Int32) (v_empty : Int32) (v_high : Nat → Int32) (v_low : Nat → Int32) (x1 : Int32) (x2 : Int32) (x3 : Int32) (x4 : Int32) (x5 : Int32) (x6 : Int32) (x7 : Int32) (x8 : Int32) (x9 : Int32) (z0 : Int32) : Option (Int32 × Int32 × (Nat → Int32) × (Nat → Int32)) :=
  if x7 = 0 then
    o_in x3 6 (
    f_X0_cutFactor_B155 N k31 v_cut v_empty v_high v_low x1 x2 x3 x4 x5 x6 x8 x9 z0 (v_high x3.toNatClampNeg))
  else
    o_in x3 6 (
    f_X0_cutFactor_B155 N k31 v_cut v_empty v_high v_low x1 x2 x3 x4 x5 x6 x8 x9 z0 (((-1)) - (v_low x3.toNatClampNeg)))
set_option maxHeartbeats 4000000 in
set_option maxRecDepth 100000 in
theorem w_X0_cutFactor_B131 {p : Program} {l : Launch} {e : Env} {s : State} {m : MethodId} {args : Array Value} {below : List Frame} {meth : Method} {c : Code} {D : va_G} {cI cM : ClassId} {A : Nat → Prop} {a_this a_this_low a_this_high : Nat} {N : Nat} {o_cut : Int32} {o_empty : Int32} {o_high : Nat → Int32} {o_low : Nat → Int32} (C0 : g_cx cX0_cutFactor none 14 RX0 wsX0_cutFactor p s m args meth c) (hA : ∀ q, s.heap.size ≤ q → A q) (hK : va_K D vwCl (g_tys cI cM) s) (k31 : Int32 → Int32 → (Nat → Int32) → (Nat → Int32) → Int32 → Int32 → Int32 → Int32 → Int32 → Int32 → Option (Int32 × Int32 × (Nat → Int32) × (Nat → Int32))) (hk31 : ∀ (v_cut : Int32) (v_empty : Int32) (v_high : Nat → Int32) (v_low : Nat → Int32) (x1 : Int32) (x2 : Int32) (x3 : Int32) (x4 : Int32) (x5 : Int32) (x6 : Int32) (H : Heap) (locs : List Loc) (ls : Array Slot), k31 v_cut v_empty v_high v_low x1 x2 x3 x4 x5 x6 = some (o_cut, o_empty, o_high, o_low) → va_P D vwCl (ww_X0_cutFactor cI cM a_this a_this_low a_this_high v_cut v_empty v_high v_low) H → va_D A (ww_X0_cutFactor cI cM a_this a_this_low a_this_high v_cut v_empty v_high v_low) → va_S A s.heap H locs → lv_has ls 14 [(0, .ref a_this), (1, .int x1), (2, .int x2), (3, .int x3), (4, .int x4), (5, .int x5), (6, .int x6)] → W p l e rm_X0_cutFactor s m args below meth c H locs 0 0 (MQ below (g_QV D (g_tys cI cM) A (ww_X0_cutFactor cI cM a_this a_this_low a_this_high o_cut o_empty o_high o_low)) args s 0 0 A) (F0 m 31 ls [])) : ∀ (v_cut : Int32) (v_empty : Int32) (v_high : Nat → Int32) (v_low : Nat → Int32) (x1 : Int32) (x2 : Int32) (x3 : Int32) (x4 : Int32) (x5 : Int32) (x6 : Int32) (x7 : Int32) (x8 : Int32) (x9 : Int32) (z0 : Int32) (H : Heap) (locs : List Loc) (ls : Array Slot), f_X0_cutFactor_B131 N k31 v_cut v_empty v_high v_low x1 x2 x3 x4 x5 x6 x7 x8 x9 z0 = some (o_cut, o_empty, o_high, o_low) → va_P D vwCl (ww_X0_cutFactor cI cM a_this a_this_low a_this_high v_cut v_empty v_high v_low) H → va_D A (ww_X0_cutFactor cI cM a_this a_this_low a_this_high v_cut v_empty v_high v_low) → va_S A s.heap H locs → lv_has ls 14 [(0, .ref a_this), (1, .int x1), (2, .int x2), (3, .int x3), (4, .int x4), (5, .int x5), (6, .int x6), (7, .int x7), (8, .int x8), (9, .int x9)] → W p l e rm_X0_cutFactor s m args below meth c H locs 0 0 (MQ below (g_QV D (g_tys cI cM) A (ww_X0_cutFactor cI cM a_this a_this_low a_this_high o_cut o_empty o_high o_low)) args s 0 0 A) (F0 m 131 ls [.int z0]) := by
  obtain ⟨hx, hb, hr, hml, hown, hts, hlocks⟩ := id C0
  intro v_cut v_empty v_high v_low x1 x2 x3 x4 x5 x6 x7 x8 x9 z0 H locs ls hf hP hD hS hl
  unfold f_X0_cutFactor_B131 at hf
  refine lv_istore (lv' := [(10, .int z0), (0, .ref a_this), (1, .int x1), (2, .int x2), (3, .int x3), (4, .int x4), (5, .int x5), (6, .int x6), (7, .int x7), (8, .int x8), (9, .int x9)]) hx hb dX0_cutFactor_131 hl (by decide) rfl (fun ls hl => ?_)
  refine lv_iload hx hb dX0_cutFactor_133 (lv_at hl 8 rfl) ?_
  refine lv_if_eq (tgt := 149) hx hb dX0_cutFactor_135 (by decide) (fun c135 => ?_) (fun c135 => ?_)
  · replace hf := o_t c135 hf
    refine lv_aload_n hx hb dX0_cutFactor_149 rfl (lv_at hl 1 rfl) ?_
    refine va_get (D := D) (ci := 0) (v := .ref a_this_high) (C := RX0) (T := TX0) (N := 4) hx hb hts (fun _ h => (List.mem_cons_of_mem _ (List.mem_append_right _ h))) hown hK hP 0 rfl rfl 1 (by decide) (hts (.fieldLink RX0 15 "FloatBoxes$Cutter" "high" "[I") (List.mem_cons_of_mem _ (List.mem_append_left _ (List.mem_append_left _ (List.mem_of_getElem? (i := 1) rfl))))) (fun _ h9 => h9) rfl dX0_cutFactor_150 ?_
    refine lv_iload_n hx hb dX0_cutFactor_153 rfl (lv_at hl 4 rfl) ?_
    obtain ⟨h154, hf⟩ := o_in_go hf
    refine va_iald hx hb hK hP 1 0 rfl rfl h154 dX0_cutFactor_154 ?_
    exact w_X0_cutFactor_B155 C0 hA hK k31 hk31 v_cut v_empty v_high v_low x1 x2 x3 x4 x5 x6 x8 x9 z0 (v_high x3.toNatClampNeg) H locs ls hf hP hD hS (lv_sub hl [1, 2, 3, 4, 5, 6, 7, 9, 10, 0] rfl)
  · replace hf := o_f c135 hf
    refine lv_iconst (v := (-1)) hx hb dX0_cutFactor_138 (by decide) ?_
    refine lv_aload_n hx hb dX0_cutFactor_139 rfl (lv_at hl 1 rfl) ?_
    refine va_get (D := D) (ci := 0) (v := .ref a_this_low) (C := RX0) (T := TX0) (N := 4) hx hb hts (fun _ h => (List.mem_cons_of_mem _ (List.mem_append_right _ h))) hown hK hP 0 rfl rfl 0 (by decide) (hts (.fieldLink RX0 9 "FloatBoxes$Cutter" "low" "[I") (List.mem_cons_of_mem _ (List.mem_append_left _ (List.mem_append_left _ (List.mem_of_getElem? (i := 2) rfl))))) (fun _ h9 => h9) rfl dX0_cutFactor_140 ?_
    refine lv_iload_n hx hb dX0_cutFactor_143 rfl (lv_at hl 4 rfl) ?_
    obtain ⟨h144, hf⟩ := o_in_go hf
    refine va_iald hx hb hK hP 2 0 rfl rfl h144 dX0_cutFactor_144 ?_
    refine lv_isub hx hb dX0_cutFactor_145 ?_
    refine lv_goto (tgt := 155) hx hb dX0_cutFactor_146 (by decide) ?_
    exact w_X0_cutFactor_B155 C0 hA hK k31 hk31 v_cut v_empty v_high v_low x1 x2 x3 x4 x5 x6 x8 x9 z0 (((-1)) - (v_low x3.toNatClampNeg)) H locs ls hf hP hD hS (lv_sub hl [1, 2, 3, 4, 5, 6, 7, 9, 10, 0] rfl)
def f_X0_cutFactor_B100 (N : Nat) (k31 : Int32 → Int32 → (Nat → Int32) → (Nat → Int32) → Int32 → Int32 → Int32 → Int32 → Int32 → Int32 → Option (Int32 × Int32 × (Nat → Int32) × (Nat → Int32))) (v_cut : Int32) (v_empty : Int32) (v_high : Nat → Int32) (v_low : Nat → Int32) (x1 : Int32) (x2 : Int32) (x3 : Int32) (x4 : Int32) (x5 : Int32) (x6 : Int32) (x7 : Int32) (x8 : Int32) (z0 : Int32) : Option (Int32 × Int32 × (Nat → Int32) × (Nat → Int32)) :=
  if z0 < x8 then
    f_X0_cutFactor_B212 N k31 v_cut v_empty v_high v_low x1 x2 x3 x4 x5 x6
  else
    if x7 = 0 then
      o_in x3 6 (
      f_X0_cutFactor_B131 N k31 v_cut v_empty v_high v_low x1 x2 x3 x4 x5 x6 x7 x8 z0 (v_low x3.toNatClampNeg))
    else
      o_in x3 6 (
      f_X0_cutFactor_B131 N k31 v_cut v_empty v_high v_low x1 x2 x3 x4 x5 x6 x7 x8 z0 (((-1)) - (v_high x3.toNatClampNeg)))
set_option maxHeartbeats 4000000 in
set_option maxRecDepth 100000 in
theorem w_X0_cutFactor_B100 {p : Program} {l : Launch} {e : Env} {s : State} {m : MethodId} {args : Array Value} {below : List Frame} {meth : Method} {c : Code} {D : va_G} {cI cM : ClassId} {A : Nat → Prop} {a_this a_this_low a_this_high : Nat} {N : Nat} {o_cut : Int32} {o_empty : Int32} {o_high : Nat → Int32} {o_low : Nat → Int32} (C0 : g_cx cX0_cutFactor none 14 RX0 wsX0_cutFactor p s m args meth c) (hA : ∀ q, s.heap.size ≤ q → A q) (hK : va_K D vwCl (g_tys cI cM) s) (k31 : Int32 → Int32 → (Nat → Int32) → (Nat → Int32) → Int32 → Int32 → Int32 → Int32 → Int32 → Int32 → Option (Int32 × Int32 × (Nat → Int32) × (Nat → Int32))) (hk31 : ∀ (v_cut : Int32) (v_empty : Int32) (v_high : Nat → Int32) (v_low : Nat → Int32) (x1 : Int32) (x2 : Int32) (x3 : Int32) (x4 : Int32) (x5 : Int32) (x6 : Int32) (H : Heap) (locs : List Loc) (ls : Array Slot), k31 v_cut v_empty v_high v_low x1 x2 x3 x4 x5 x6 = some (o_cut, o_empty, o_high, o_low) → va_P D vwCl (ww_X0_cutFactor cI cM a_this a_this_low a_this_high v_cut v_empty v_high v_low) H → va_D A (ww_X0_cutFactor cI cM a_this a_this_low a_this_high v_cut v_empty v_high v_low) → va_S A s.heap H locs → lv_has ls 14 [(0, .ref a_this), (1, .int x1), (2, .int x2), (3, .int x3), (4, .int x4), (5, .int x5), (6, .int x6)] → W p l e rm_X0_cutFactor s m args below meth c H locs 0 0 (MQ below (g_QV D (g_tys cI cM) A (ww_X0_cutFactor cI cM a_this a_this_low a_this_high o_cut o_empty o_high o_low)) args s 0 0 A) (F0 m 31 ls [])) : ∀ (v_cut : Int32) (v_empty : Int32) (v_high : Nat → Int32) (v_low : Nat → Int32) (x1 : Int32) (x2 : Int32) (x3 : Int32) (x4 : Int32) (x5 : Int32) (x6 : Int32) (x7 : Int32) (x8 : Int32) (z0 : Int32) (H : Heap) (locs : List Loc) (ls : Array Slot), f_X0_cutFactor_B100 N k31 v_cut v_empty v_high v_low x1 x2 x3 x4 x5 x6 x7 x8 z0 = some (o_cut, o_empty, o_high, o_low) → va_P D vwCl (ww_X0_cutFactor cI cM a_this a_this_low a_this_high v_cut v_empty v_high v_low) H → va_D A (ww_X0_cutFactor cI cM a_this a_this_low a_this_high v_cut v_empty v_high v_low) → va_S A s.heap H locs → lv_has ls 14 [(0, .ref a_this), (1, .int x1), (2, .int x2), (3, .int x3), (4, .int x4), (5, .int x5), (6, .int x6), (7, .int x7), (8, .int x8)] → W p l e rm_X0_cutFactor s m args below meth c H locs 0 0 (MQ below (g_QV D (g_tys cI cM) A (ww_X0_cutFactor cI cM a_this a_this_low a_this_high o_cut o_empty o_high o_low)) args s 0 0 A) (F0 m 100 ls [.int z0]) := by
  obtain ⟨hx, hb, hr, hml, hown, hts, hlocks⟩ := id C0
  intro v_cut v_empty v_high v_low x1 x2 x3 x4 x5 x6 x7 x8 z0 H locs ls hf hP hD hS hl
  unfold f_X0_cutFactor_B100 at hf
  refine lv_istore (lv' := [(9, .int z0), (0, .ref a_this), (1, .int x1), (2, .int x2), (3, .int x3), (4, .int x4), (5, .int x5), (6, .int x6), (7, .int x7), (8, .int x8)]) hx hb dX0_cutFactor_100 hl (by decide) rfl (fun ls hl => ?_)
  refine lv_iload hx hb dX0_cutFactor_102 (lv_at hl 9 rfl) ?_
  refine lv_iload hx hb dX0_cutFactor_104 (lv_at hl 0 rfl) ?_
  refine lv_icmp_gt (tgt := 212) hx hb dX0_cutFactor_106 (by decide) (fun c106 => ?_) (fun c106 => ?_)
  · replace hf := o_t c106 hf
    exact w_X0_cutFactor_B212 C0 hA hK k31 hk31 v_cut v_empty v_high v_low x1 x2 x3 x4 x5 x6 H locs ls hf hP hD hS (lv_sub hl [1, 2, 3, 4, 5, 6, 7] rfl)
  · replace hf := o_f c106 hf
    refine lv_iload hx hb dX0_cutFactor_109 (lv_at hl 8 rfl) ?_
    refine lv_if_eq (tgt := 125) hx hb dX0_cutFactor_111 (by decide) (fun c111 => ?_) (fun c111 => ?_)
    · replace hf := o_t c111 hf
      refine lv_aload_n hx hb dX0_cutFactor_125 rfl (lv_at hl 1 rfl) ?_
      refine va_get (D := D) (ci := 0) (v := .ref a_this_low) (C := RX0) (T := TX0) (N := 4) hx hb hts (fun _ h => (List.mem_cons_of_mem _ (List.mem_append_right _ h))) hown hK hP 0 rfl rfl 0 (by decide) (hts (.fieldLink RX0 9 "FloatBoxes$Cutter" "low" "[I") (List.mem_cons_of_mem _ (List.mem_append_left _ (List.mem_append_left _ (List.mem_of_getElem? (i := 2) rfl))))) (fun _ h9 => h9) rfl dX0_cutFactor_126 ?_
      refine lv_iload_n hx hb dX0_cutFactor_129 rfl (lv_at hl 4 rfl) ?_
      obtain ⟨h130, hf⟩ := o_in_go hf
      refine va_iald hx hb hK hP 2 0 rfl rfl h130 dX0_cutFactor_130 ?_
      exact w_X0_cutFactor_B131 C0 hA hK k31 hk31 v_cut v_empty v_high v_low x1 x2 x3 x4 x5 x6 x7 x8 z0 (v_low x3.toNatClampNeg) H locs ls hf hP hD hS (lv_sub hl [1, 2, 3, 4, 5, 6, 7, 8, 9, 0] rfl)
    · replace hf := o_f c111 hf
      refine lv_iconst (v := (-1)) hx hb dX0_cutFactor_114 (by decide) ?_
      refine lv_aload_n hx hb dX0_cutFactor_115 rfl (lv_at hl 1 rfl) ?_
      refine va_get (D := D) (ci := 0) (v := .ref a_this_high) (C := RX0) (T := TX0) (N := 4) hx hb hts (fun _ h => (List.mem_cons_of_mem _ (List.mem_append_right _ h))) hown hK hP 0 rfl rfl 1 (by decide) (hts (.fieldLink RX0 15 "FloatBoxes$Cutter" "high" "[I") (List.mem_cons_of_mem _ (List.mem_append_left _ (List.mem_append_left _ (List.mem_of_getElem? (i := 1) rfl))))) (fun _ h9 => h9) rfl dX0_cutFactor_116 ?_
      refine lv_iload_n hx hb dX0_cutFactor_119 rfl (lv_at hl 4 rfl) ?_
      obtain ⟨h120, hf⟩ := o_in_go hf
      refine va_iald hx hb hK hP 1 0 rfl rfl h120 dX0_cutFactor_120 ?_
      refine lv_isub hx hb dX0_cutFactor_121 ?_
      refine lv_goto (tgt := 131) hx hb dX0_cutFactor_122 (by decide) ?_
      exact w_X0_cutFactor_B131 C0 hA hK k31 hk31 v_cut v_empty v_high v_low x1 x2 x3 x4 x5 x6 x7 x8 z0 (((-1)) - (v_high x3.toNatClampNeg)) H locs ls hf hP hD hS (lv_sub hl [1, 2, 3, 4, 5, 6, 7, 8, 9, 0] rfl)
def f_X0_cutFactor_B72 (N : Nat) (k31 : Int32 → Int32 → (Nat → Int32) → (Nat → Int32) → Int32 → Int32 → Int32 → Int32 → Int32 → Int32 → Option (Int32 × Int32 × (Nat → Int32) × (Nat → Int32))) (v_cut : Int32) (v_empty : Int32) (v_high : Nat → Int32) (v_low : Nat → Int32) (x1 : Int32) (x2 : Int32) (x3 : Int32) (x4 : Int32) (x5 : Int32) (x6 : Int32) (x7 : Int32) (z0 : Int32) : Option (Int32 × Int32 × (Nat → Int32) × (Nat → Int32)) :=
  o_nm (o_max z0 0) (fun (t76 : Int32) =>
  if x7 = 0 then
    o_in x2 6 (
    f_X0_cutFactor_B100 N k31 v_cut v_empty v_high v_low x1 x2 x3 x4 x5 x6 x7 t76 (v_high x2.toNatClampNeg))
  else
    o_in x2 6 (
    f_X0_cutFactor_B100 N k31 v_cut v_empty v_high v_low x1 x2 x3 x4 x5 x6 x7 t76 (((-1)) - (v_low x2.toNatClampNeg))))
set_option maxHeartbeats 4000000 in
set_option maxRecDepth 100000 in
theorem w_X0_cutFactor_B72 {p : Program} {l : Launch} {e : Env} {s : State} {m : MethodId} {args : Array Value} {below : List Frame} {meth : Method} {c : Code} {D : va_G} {cI cM : ClassId} {A : Nat → Prop} {a_this a_this_low a_this_high : Nat} {N : Nat} {o_cut : Int32} {o_empty : Int32} {o_high : Nat → Int32} {o_low : Nat → Int32} (C0 : g_cx cX0_cutFactor none 14 RX0 wsX0_cutFactor p s m args meth c) (hA : ∀ q, s.heap.size ≤ q → A q) (hK : va_K D vwCl (g_tys cI cM) s) (k31 : Int32 → Int32 → (Nat → Int32) → (Nat → Int32) → Int32 → Int32 → Int32 → Int32 → Int32 → Int32 → Option (Int32 × Int32 × (Nat → Int32) × (Nat → Int32))) (hk31 : ∀ (v_cut : Int32) (v_empty : Int32) (v_high : Nat → Int32) (v_low : Nat → Int32) (x1 : Int32) (x2 : Int32) (x3 : Int32) (x4 : Int32) (x5 : Int32) (x6 : Int32) (H : Heap) (locs : List Loc) (ls : Array Slot), k31 v_cut v_empty v_high v_low x1 x2 x3 x4 x5 x6 = some (o_cut, o_empty, o_high, o_low) → va_P D vwCl (ww_X0_cutFactor cI cM a_this a_this_low a_this_high v_cut v_empty v_high v_low) H → va_D A (ww_X0_cutFactor cI cM a_this a_this_low a_this_high v_cut v_empty v_high v_low) → va_S A s.heap H locs → lv_has ls 14 [(0, .ref a_this), (1, .int x1), (2, .int x2), (3, .int x3), (4, .int x4), (5, .int x5), (6, .int x6)] → W p l e rm_X0_cutFactor s m args below meth c H locs 0 0 (MQ below (g_QV D (g_tys cI cM) A (ww_X0_cutFactor cI cM a_this a_this_low a_this_high o_cut o_empty o_high o_low)) args s 0 0 A) (F0 m 31 ls [])) : ∀ (v_cut : Int32) (v_empty : Int32) (v_high : Nat → Int32) (v_low : Nat → Int32) (x1 : Int32) (x2 : Int32) (x3 : Int32) (x4 : Int32) (x5 : Int32) (x6 : Int32) (x7 : Int32) (z0 : Int32) (H : Heap) (locs : List Loc) (ls : Array Slot), f_X0_cutFactor_B72 N k31 v_cut v_empty v_high v_low x1 x2 x3 x4 x5 x6 x7 z0 = some (o_cut, o_empty, o_high, o_low) → va_P D vwCl (ww_X0_cutFactor cI cM a_this a_this_low a_this_high v_cut v_empty v_high v_low) H → va_D A (ww_X0_cutFactor cI cM a_this a_this_low a_this_high v_cut v_empty v_high v_low) → va_S A s.heap H locs → lv_has ls 14 [(0, .ref a_this), (1, .int x1), (2, .int x2), (3, .int x3), (4, .int x4), (5, .int x5), (6, .int x6), (7, .int x7)] → W p l e rm_X0_cutFactor s m args below meth c H locs 0 0 (MQ below (g_QV D (g_tys cI cM) A (ww_X0_cutFactor cI cM a_this a_this_low a_this_high o_cut o_empty o_high o_low)) args s 0 0 A) (F0 m 72 ls [.int z0]) := by
  obtain ⟨hx, hb, hr, hml, hown, hts, hlocks⟩ := id C0
  intro v_cut v_empty v_high v_low x1 x2 x3 x4 x5 x6 x7 z0 H locs ls hf hP hD hS hl
  unfold f_X0_cutFactor_B72 at hf
  refine lv_iconst (v := 0) hx hb dX0_cutFactor_72 (by decide) ?_
  refine va_mmax hx hb (by rw [hml]; exact hl.1.symm) hown (hts (.methodLink RX0 69 Lib.Math.max.name) (List.mem_cons_of_mem _ (List.mem_append_left _ (List.mem_append_left _ (List.mem_of_getElem? (i := 3) rfl))))) (hts (.static Lib.Math.max.name) (List.mem_cons_of_mem _ (List.mem_append_left _ (List.mem_append_left _ (List.mem_of_getElem? (i := 4) rfl))))) (hts (.initialized "java/lang/Math") (List.mem_cons_of_mem _ (List.mem_append_left _ (List.mem_append_left _ (List.mem_of_getElem? (i := 5) rfl))))) (hts (.code Lib.Math.max.name Lib.Math.max.code 2 (some .int)) (List.mem_cons_of_mem _ (List.mem_append_left _ (List.mem_append_left _ (List.mem_of_getElem? (i := 6) rfl))))) (Nat.le_of_ble_eq_true rfl) (Nat.le_of_ble_eq_true rfl) (Nat.zero_le _) (Nat.zero_le _) dX0_cutFactor_73 ?_
  refine lv_topi (fun t76 et76 => ?_)
  replace hf := o_nm_go et76 hf
  refine lv_istore (lv' := [(8, .int t76), (0, .ref a_this), (1, .int x1), (2, .int x2), (3, .int x3), (4, .int x4), (5, .int x5), (6, .int x6), (7, .int x7)]) hx hb dX0_cutFactor_76 hl (by decide) rfl (fun ls hl => ?_)
  refine lv_iload hx hb dX0_cutFactor_78 (lv_at hl 8 rfl) ?_
  refine lv_if_eq (tgt := 94) hx hb dX0_cutFactor_80 (by decide) (fun c80 => ?_) (fun c80 => ?_)
  · replace hf := o_t c80 hf
    refine lv_aload_n hx hb dX0_cutFactor_94 rfl (lv_at hl 1 rfl) ?_
    refine va_get (D := D) (ci := 0) (v := .ref a_this_high) (C := RX0) (T := TX0) (N := 4) hx hb hts (fun _ h => (List.mem_cons_of_mem _ (List.mem_append_right _ h))) hown hK hP 0 rfl rfl 1 (by decide) (hts (.fieldLink RX0 15 "FloatBoxes$Cutter" "high" "[I") (List.mem_cons_of_mem _ (List.mem_append_left _ (List.mem_append_left _ (List.mem_of_getElem? (i := 1) rfl))))) (fun _ h9 => h9) rfl dX0_cutFactor_95 ?_
    refine lv_iload_n hx hb dX0_cutFactor_98 rfl (lv_at hl 3 rfl) ?_
    obtain ⟨h99, hf⟩ := o_in_go hf
    refine va_iald hx hb hK hP 1 0 rfl rfl h99 dX0_cutFactor_99 ?_
    exact w_X0_cutFactor_B100 C0 hA hK k31 hk31 v_cut v_empty v_high v_low x1 x2 x3 x4 x5 x6 x7 t76 (v_high x2.toNatClampNeg) H locs ls hf hP hD hS (lv_sub hl [1, 2, 3, 4, 5, 6, 7, 8, 0] rfl)
  · replace hf := o_f c80 hf
    refine lv_iconst (v := (-1)) hx hb dX0_cutFactor_83 (by decide) ?_
    refine lv_aload_n hx hb dX0_cutFactor_84 rfl (lv_at hl 1 rfl) ?_
    refine va_get (D := D) (ci := 0) (v := .ref a_this_low) (C := RX0) (T := TX0) (N := 4) hx hb hts (fun _ h => (List.mem_cons_of_mem _ (List.mem_append_right _ h))) hown hK hP 0 rfl rfl 0 (by decide) (hts (.fieldLink RX0 9 "FloatBoxes$Cutter" "low" "[I") (List.mem_cons_of_mem _ (List.mem_append_left _ (List.mem_append_left _ (List.mem_of_getElem? (i := 2) rfl))))) (fun _ h9 => h9) rfl dX0_cutFactor_85 ?_
    refine lv_iload_n hx hb dX0_cutFactor_88 rfl (lv_at hl 3 rfl) ?_
    obtain ⟨h89, hf⟩ := o_in_go hf
    refine va_iald hx hb hK hP 2 0 rfl rfl h89 dX0_cutFactor_89 ?_
    refine lv_isub hx hb dX0_cutFactor_90 ?_
    refine lv_goto (tgt := 100) hx hb dX0_cutFactor_91 (by decide) ?_
    exact w_X0_cutFactor_B100 C0 hA hK k31 hk31 v_cut v_empty v_high v_low x1 x2 x3 x4 x5 x6 x7 t76 (((-1)) - (v_low x2.toNatClampNeg)) H locs ls hf hP hD hS (lv_sub hl [1, 2, 3, 4, 5, 6, 7, 8, 0] rfl)
def f_X0_cutFactor_B48 (N : Nat) (k31 : Int32 → Int32 → (Nat → Int32) → (Nat → Int32) → Int32 → Int32 → Int32 → Int32 → Int32 → Int32 → Option (Int32 × Int32 × (Nat → Int32) × (Nat → Int32))) (v_cut : Int32) (v_empty : Int32) (v_high : Nat → Int32) (v_low : Nat → Int32) (x1 : Int32) (x2 : Int32) (x3 : Int32) (x4 : Int32) (x5 : Int32) (x6 : Int32) (z0 : Int32) : Option (Int32 × Int32 × (Nat → Int32) × (Nat → Int32)) :=
  if z0 = 0 then
    o_in x2 6 (
    f_X0_cutFactor_B72 N k31 v_cut v_empty v_high v_low x1 x2 x3 x4 x5 x6 z0 (v_low x2.toNatClampNeg))
  else
    o_in x2 6 (
    f_X0_cutFactor_B72 N k31 v_cut v_empty v_high v_low x1 x2 x3 x4 x5 x6 z0 (((-1)) - (v_high x2.toNatClampNeg)))
set_option maxHeartbeats 4000000 in
set_option maxRecDepth 100000 in
theorem w_X0_cutFactor_B48 {p : Program} {l : Launch} {e : Env} {s : State} {m : MethodId} {args : Array Value} {below : List Frame} {meth : Method} {c : Code} {D : va_G} {cI cM : ClassId} {A : Nat → Prop} {a_this a_this_low a_this_high : Nat} {N : Nat} {o_cut : Int32} {o_empty : Int32} {o_high : Nat → Int32} {o_low : Nat → Int32} (C0 : g_cx cX0_cutFactor none 14 RX0 wsX0_cutFactor p s m args meth c) (hA : ∀ q, s.heap.size ≤ q → A q) (hK : va_K D vwCl (g_tys cI cM) s) (k31 : Int32 → Int32 → (Nat → Int32) → (Nat → Int32) → Int32 → Int32 → Int32 → Int32 → Int32 → Int32 → Option (Int32 × Int32 × (Nat → Int32) × (Nat → Int32))) (hk31 : ∀ (v_cut : Int32) (v_empty : Int32) (v_high : Nat → Int32) (v_low : Nat → Int32) (x1 : Int32) (x2 : Int32) (x3 : Int32) (x4 : Int32) (x5 : Int32) (x6 : Int32) (H : Heap) (locs : List Loc) (ls : Array Slot), k31 v_cut v_empty v_high v_low x1 x2 x3 x4 x5 x6 = some (o_cut, o_empty, o_high, o_low) → va_P D vwCl (ww_X0_cutFactor cI cM a_this a_this_low a_this_high v_cut v_empty v_high v_low) H → va_D A (ww_X0_cutFactor cI cM a_this a_this_low a_this_high v_cut v_empty v_high v_low) → va_S A s.heap H locs → lv_has ls 14 [(0, .ref a_this), (1, .int x1), (2, .int x2), (3, .int x3), (4, .int x4), (5, .int x5), (6, .int x6)] → W p l e rm_X0_cutFactor s m args below meth c H locs 0 0 (MQ below (g_QV D (g_tys cI cM) A (ww_X0_cutFactor cI cM a_this a_this_low a_this_high o_cut o_empty o_high o_low)) args s 0 0 A) (F0 m 31 ls [])) : ∀ (v_cut : Int32) (v_empty : Int32) (v_high : Nat → Int32) (v_low : Nat → Int32) (x1 : Int32) (x2 : Int32) (x3 : Int32) (x4 : Int32) (x5 : Int32) (x6 : Int32) (z0 : Int32) (H : Heap) (locs : List Loc) (ls : Array Slot), f_X0_cutFactor_B48 N k31 v_cut v_empty v_high v_low x1 x2 x3 x4 x5 x6 z0 = some (o_cut, o_empty, o_high, o_low) → va_P D vwCl (ww_X0_cutFactor cI cM a_this a_this_low a_this_high v_cut v_empty v_high v_low) H → va_D A (ww_X0_cutFactor cI cM a_this a_this_low a_this_high v_cut v_empty v_high v_low) → va_S A s.heap H locs → lv_has ls 14 [(0, .ref a_this), (1, .int x1), (2, .int x2), (3, .int x3), (4, .int x4), (5, .int x5), (6, .int x6)] → W p l e rm_X0_cutFactor s m args below meth c H locs 0 0 (MQ below (g_QV D (g_tys cI cM) A (ww_X0_cutFactor cI cM a_this a_this_low a_this_high o_cut o_empty o_high o_low)) args s 0 0 A) (F0 m 48 ls [.int z0]) := by
  obtain ⟨hx, hb, hr, hml, hown, hts, hlocks⟩ := id C0
  intro v_cut v_empty v_high v_low x1 x2 x3 x4 x5 x6 z0 H locs ls hf hP hD hS hl
  unfold f_X0_cutFactor_B48 at hf
  refine lv_istore (lv' := [(7, .int z0), (0, .ref a_this), (1, .int x1), (2, .int x2), (3, .int x3), (4, .int x4), (5, .int x5), (6, .int x6)]) hx hb dX0_cutFactor_48 hl (by decide) rfl (fun ls hl => ?_)
  refine lv_iload hx hb dX0_cutFactor_50 (lv_at hl 0 rfl) ?_
  refine lv_if_eq (tgt := 66) hx hb dX0_cutFactor_52 (by decide) (fun c52 => ?_) (fun c52 => ?_)
  · replace hf := o_t c52 hf
    refine lv_aload_n hx hb dX0_cutFactor_66 rfl (lv_at hl 1 rfl) ?_
    refine va_get (D := D) (ci := 0) (v := .ref a_this_low) (C := RX0) (T := TX0) (N := 4) hx hb hts (fun _ h => (List.mem_cons_of_mem _ (List.mem_append_right _ h))) hown hK hP 0 rfl rfl 0 (by decide) (hts (.fieldLink RX0 9 "FloatBoxes$Cutter" "low" "[I") (List.mem_cons_of_mem _ (List.mem_append_left _ (List.mem_append_left _ (List.mem_of_getElem? (i := 2) rfl))))) (fun _ h9 => h9) rfl dX0_cutFactor_67 ?_
    refine lv_iload_n hx hb dX0_cutFactor_70 rfl (lv_at hl 3 rfl) ?_
    obtain ⟨h71, hf⟩ := o_in_go hf
    refine va_iald hx hb hK hP 2 0 rfl rfl h71 dX0_cutFactor_71 ?_
    exact w_X0_cutFactor_B72 C0 hA hK k31 hk31 v_cut v_empty v_high v_low x1 x2 x3 x4 x5 x6 z0 (v_low x2.toNatClampNeg) H locs ls hf hP hD hS (lv_sub hl [1, 2, 3, 4, 5, 6, 7, 0] rfl)
  · replace hf := o_f c52 hf
    refine lv_iconst (v := (-1)) hx hb dX0_cutFactor_55 (by decide) ?_
    refine lv_aload_n hx hb dX0_cutFactor_56 rfl (lv_at hl 1 rfl) ?_
    refine va_get (D := D) (ci := 0) (v := .ref a_this_high) (C := RX0) (T := TX0) (N := 4) hx hb hts (fun _ h => (List.mem_cons_of_mem _ (List.mem_append_right _ h))) hown hK hP 0 rfl rfl 1 (by decide) (hts (.fieldLink RX0 15 "FloatBoxes$Cutter" "high" "[I") (List.mem_cons_of_mem _ (List.mem_append_left _ (List.mem_append_left _ (List.mem_of_getElem? (i := 1) rfl))))) (fun _ h9 => h9) rfl dX0_cutFactor_57 ?_
    refine lv_iload_n hx hb dX0_cutFactor_60 rfl (lv_at hl 3 rfl) ?_
    obtain ⟨h61, hf⟩ := o_in_go hf
    refine va_iald hx hb hK hP 1 0 rfl rfl h61 dX0_cutFactor_61 ?_
    refine lv_isub hx hb dX0_cutFactor_62 ?_
    refine lv_goto (tgt := 72) hx hb dX0_cutFactor_63 (by decide) ?_
    exact w_X0_cutFactor_B72 C0 hA hK k31 hk31 v_cut v_empty v_high v_low x1 x2 x3 x4 x5 x6 z0 (((-1)) - (v_high x2.toNatClampNeg)) H locs ls hf hP hD hS (lv_sub hl [1, 2, 3, 4, 5, 6, 7, 0] rfl)
def f_X0_cutFactor_C31 (N : Nat) (k31 : Int32 → Int32 → (Nat → Int32) → (Nat → Int32) → Int32 → Int32 → Int32 → Int32 → Int32 → Int32 → Option (Int32 × Int32 × (Nat → Int32) × (Nat → Int32))) (v_cut : Int32) (v_empty : Int32) (v_high : Nat → Int32) (v_low : Nat → Int32) (x1 : Int32) (x2 : Int32) (x3 : Int32) (x4 : Int32) (x5 : Int32) (x6 : Int32) : Option (Int32 × Int32 × (Nat → Int32) × (Nat → Int32)) :=
  if 1 < x6 then
    o_b4 (f_X0_leave v_cut v_empty v_low v_high x1 x4 x5) (fun (v_cut_224 : Int32) (v_empty_224 : Int32) (v_low_224 : Nat → Int32) (v_high_224 : Nat → Int32) =>
    some (v_cut_224, v_empty_224, v_high_224, v_low_224))
  else
    if x6 = 1 then
      f_X0_cutFactor_B48 N k31 v_cut v_empty v_high v_low x1 x2 x3 x4 x5 x6 1
    else
      f_X0_cutFactor_B48 N k31 v_cut v_empty v_high v_low x1 x2 x3 x4 x5 x6 0
def f_X0_cutFactor_L31 (N : Nat) : Nat → Int32 → Int32 → (Nat → Int32) → (Nat → Int32) → Int32 → Int32 → Int32 → Int32 → Int32 → Int32 → Option (Int32 × Int32 × (Nat → Int32) × (Nat → Int32))
  | 0 => fun _ _ _ _ _ _ _ _ _ _ => none
  | n + 1 => f_X0_cutFactor_C31 N (f_X0_cutFactor_L31 N n)
set_option maxHeartbeats 4000000 in
set_option maxRecDepth 100000 in
theorem w_X0_cutFactor_C31 {p : Program} {l : Launch} {e : Env} {s : State} {m : MethodId} {args : Array Value} {below : List Frame} {meth : Method} {c : Code} {D : va_G} {cI cM : ClassId} {A : Nat → Prop} {a_this a_this_low a_this_high : Nat} {N : Nat} {o_cut : Int32} {o_empty : Int32} {o_high : Nat → Int32} {o_low : Nat → Int32} (C0 : g_cx cX0_cutFactor none 14 RX0 wsX0_cutFactor p s m args meth c) (hA : ∀ q, s.heap.size ≤ q → A q) (hK : va_K D vwCl (g_tys cI cM) s) (k31 : Int32 → Int32 → (Nat → Int32) → (Nat → Int32) → Int32 → Int32 → Int32 → Int32 → Int32 → Int32 → Option (Int32 × Int32 × (Nat → Int32) × (Nat → Int32))) (hk31 : ∀ (v_cut : Int32) (v_empty : Int32) (v_high : Nat → Int32) (v_low : Nat → Int32) (x1 : Int32) (x2 : Int32) (x3 : Int32) (x4 : Int32) (x5 : Int32) (x6 : Int32) (H : Heap) (locs : List Loc) (ls : Array Slot), k31 v_cut v_empty v_high v_low x1 x2 x3 x4 x5 x6 = some (o_cut, o_empty, o_high, o_low) → va_P D vwCl (ww_X0_cutFactor cI cM a_this a_this_low a_this_high v_cut v_empty v_high v_low) H → va_D A (ww_X0_cutFactor cI cM a_this a_this_low a_this_high v_cut v_empty v_high v_low) → va_S A s.heap H locs → lv_has ls 14 [(0, .ref a_this), (1, .int x1), (2, .int x2), (3, .int x3), (4, .int x4), (5, .int x5), (6, .int x6)] → W p l e rm_X0_cutFactor s m args below meth c H locs 0 0 (MQ below (g_QV D (g_tys cI cM) A (ww_X0_cutFactor cI cM a_this a_this_low a_this_high o_cut o_empty o_high o_low)) args s 0 0 A) (F0 m 31 ls [])) : ∀ (v_cut : Int32) (v_empty : Int32) (v_high : Nat → Int32) (v_low : Nat → Int32) (x1 : Int32) (x2 : Int32) (x3 : Int32) (x4 : Int32) (x5 : Int32) (x6 : Int32) (H : Heap) (locs : List Loc) (ls : Array Slot), f_X0_cutFactor_C31 N k31 v_cut v_empty v_high v_low x1 x2 x3 x4 x5 x6 = some (o_cut, o_empty, o_high, o_low) → va_P D vwCl (ww_X0_cutFactor cI cM a_this a_this_low a_this_high v_cut v_empty v_high v_low) H → va_D A (ww_X0_cutFactor cI cM a_this a_this_low a_this_high v_cut v_empty v_high v_low) → va_S A s.heap H locs → lv_has ls 14 [(0, .ref a_this), (1, .int x1), (2, .int x2), (3, .int x3), (4, .int x4), (5, .int x5), (6, .int x6)] → W p l e rm_X0_cutFactor s m args below meth c H locs 0 0 (MQ below (g_QV D (g_tys cI cM) A (ww_X0_cutFactor cI cM a_this a_this_low a_this_high o_cut o_empty o_high o_low)) args s 0 0 A) (F0 m 31 ls []) := by
  obtain ⟨hx, hb, hr, hml, hown, hts, hlocks⟩ := id C0
  intro v_cut v_empty v_high v_low x1 x2 x3 x4 x5 x6 H locs ls hf hP hD hS hl
  unfold f_X0_cutFactor_C31 at hf
  refine lv_iload hx hb dX0_cutFactor_31 (lv_at hl 6 rfl) ?_
  refine lv_iconst (v := 1) hx hb dX0_cutFactor_33 (by decide) ?_
  refine lv_icmp_gt (tgt := 218) hx hb dX0_cutFactor_34 (by decide) (fun c34 => ?_) (fun c34 => ?_)
  · replace hf := o_t c34 hf
    refine lv_aload_n hx hb dX0_cutFactor_218 rfl (lv_at hl 0 rfl) ?_
    refine lv_iload_n hx hb dX0_cutFactor_219 rfl (lv_at hl 1 rfl) ?_
    refine lv_iload hx hb dX0_cutFactor_220 (lv_at hl 4 rfl) ?_
    refine lv_iload hx hb dX0_cutFactor_222 (lv_at hl 5 rfl) ?_
    obtain ⟨v_cut_224, v_empty_224, v_low_224, v_high_224, hg224, hf⟩ := o_b4_go hf
    refine g_callVv (wn := (ww_X0_cutFactor cI cM a_this a_this_low a_this_high v_cut_224 v_empty_224 v_high_224 v_low_224)) (rest := []) ⟨hx, hb, hml, hown, hts⟩ (c_X0_leave l D cI cM a_this a_this_low a_this_high H.size v_cut v_empty v_low v_high hg224) (cwV 3 hts gX0_cutFactor_X0_leave rfl rfl rfl (by decide +kernel) ⟨Nat.le_of_ble_eq_true rfl, Nat.le_of_ble_eq_true rfl⟩) hK hP hD hS hA [0, 2, 1] [] [0, 2, 1] rfl rfl rfl rfl rfl rfl (by decide) rfl rfl rfl hl.1 rfl (Nat.le_of_ble_eq_true rfl) dX0_cutFactor_224 (fun H locs hP hD hS => ?_)
    obtain ⟨q0, y0⟩ := o_rp hf
    obtain ⟨q1, y1⟩ := o_rp y0
    obtain ⟨q2, y2⟩ := o_rp y1
    have q3 := Option.some.inj y2
    subst q0 q1 q2 q3
    exact g_vret hx hb hr hlocks hP hD hK hS dX0_cutFactor_227
  · replace hf := o_f c34 hf
    refine lv_iload hx hb dX0_cutFactor_37 (lv_at hl 6 rfl) ?_
    refine lv_iconst (v := 1) hx hb dX0_cutFactor_39 (by decide) ?_
    refine lv_icmp_ne (tgt := 47) hx hb dX0_cutFactor_40 (by decide) (fun c40 => ?_) (fun c40 => ?_)
    · replace hf := o_f c40 hf
      refine lv_iconst (v := 0) hx hb dX0_cutFactor_47 (by decide) ?_
      exact w_X0_cutFactor_B48 C0 hA hK k31 hk31 v_cut v_empty v_high v_low x1 x2 x3 x4 x5 x6 0 H locs ls hf hP hD hS (lv_sub hl [0, 1, 2, 3, 4, 5, 6] rfl)
    · replace hf := o_t c40 hf
      refine lv_iconst (v := 1) hx hb dX0_cutFactor_43 (by decide) ?_
      refine lv_goto (tgt := 48) hx hb dX0_cutFactor_44 (by decide) ?_
      exact w_X0_cutFactor_B48 C0 hA hK k31 hk31 v_cut v_empty v_high v_low x1 x2 x3 x4 x5 x6 1 H locs ls hf hP hD hS (lv_sub hl [0, 1, 2, 3, 4, 5, 6] rfl)
set_option maxHeartbeats 4000000 in
set_option maxRecDepth 100000 in
theorem w_X0_cutFactor_L31 {p : Program} {l : Launch} {e : Env} {s : State} {m : MethodId} {args : Array Value} {below : List Frame} {meth : Method} {c : Code} {D : va_G} {cI cM : ClassId} {A : Nat → Prop} {a_this a_this_low a_this_high : Nat} {N : Nat} {o_cut : Int32} {o_empty : Int32} {o_high : Nat → Int32} {o_low : Nat → Int32} (C0 : g_cx cX0_cutFactor none 14 RX0 wsX0_cutFactor p s m args meth c) (hA : ∀ q, s.heap.size ≤ q → A q) (hK : va_K D vwCl (g_tys cI cM) s) : ∀ n : Nat, ∀ (v_cut : Int32) (v_empty : Int32) (v_high : Nat → Int32) (v_low : Nat → Int32) (x1 : Int32) (x2 : Int32) (x3 : Int32) (x4 : Int32) (x5 : Int32) (x6 : Int32) (H : Heap) (locs : List Loc) (ls : Array Slot), f_X0_cutFactor_L31 N n v_cut v_empty v_high v_low x1 x2 x3 x4 x5 x6 = some (o_cut, o_empty, o_high, o_low) → va_P D vwCl (ww_X0_cutFactor cI cM a_this a_this_low a_this_high v_cut v_empty v_high v_low) H → va_D A (ww_X0_cutFactor cI cM a_this a_this_low a_this_high v_cut v_empty v_high v_low) → va_S A s.heap H locs → lv_has ls 14 [(0, .ref a_this), (1, .int x1), (2, .int x2), (3, .int x3), (4, .int x4), (5, .int x5), (6, .int x6)] → W p l e rm_X0_cutFactor s m args below meth c H locs 0 0 (MQ below (g_QV D (g_tys cI cM) A (ww_X0_cutFactor cI cM a_this a_this_low a_this_high o_cut o_empty o_high o_low)) args s 0 0 A) (F0 m 31 ls []) := by
  intro n
  induction n with
  | zero =>
    intro v_cut v_empty v_high v_low x1 x2 x3 x4 x5 x6 H locs ls hf
    exact absurd hf (fun h => nomatch h)
  | succ n ih =>
    intro v_cut v_empty v_high v_low x1 x2 x3 x4 x5 x6 H locs ls hf
    exact w_X0_cutFactor_C31 C0 hA hK _ ih v_cut v_empty v_high v_low x1 x2 x3 x4 x5 x6 H locs ls hf
def f_X0_cutFactor (N : Nat) (v_cut : Int32) (v_empty : Int32) (v_high : Nat → Int32) (v_low : Nat → Int32) (x1 : Int32) (x2 : Int32) (x3 : Int32) : Option (Int32 × Int32 × (Nat → Int32) × (Nat → Int32)) :=
  if v_empty = 0 then
    o_in x1 6 (
    o_nm ((v_high x1.toNatClampNeg) + 1) (fun (t16 : Int32) =>
    o_in x1 6 (
    o_nm ((v_low x1.toNatClampNeg) - 1) (fun (t26 : Int32) =>
    f_X0_cutFactor_L31 N N v_cut v_empty v_high v_low x1 x2 x3 t16 t26 0))))
  else
    some (v_cut, v_empty, v_high, v_low)
set_option maxHeartbeats 4000000 in
set_option maxRecDepth 100000 in
theorem w_X0_cutFactor_B0 {p : Program} {l : Launch} {e : Env} {s : State} {m : MethodId} {args : Array Value} {below : List Frame} {meth : Method} {c : Code} {D : va_G} {cI cM : ClassId} {A : Nat → Prop} {a_this a_this_low a_this_high : Nat} {N : Nat} {o_cut : Int32} {o_empty : Int32} {o_high : Nat → Int32} {o_low : Nat → Int32} (C0 : g_cx cX0_cutFactor none 14 RX0 wsX0_cutFactor p s m args meth c) (hA : ∀ q, s.heap.size ≤ q → A q) (hK : va_K D vwCl (g_tys cI cM) s) : ∀ (v_cut : Int32) (v_empty : Int32) (v_high : Nat → Int32) (v_low : Nat → Int32) (x1 : Int32) (x2 : Int32) (x3 : Int32) (H : Heap) (locs : List Loc) (ls : Array Slot), f_X0_cutFactor N v_cut v_empty v_high v_low x1 x2 x3 = some (o_cut, o_empty, o_high, o_low) → va_P D vwCl (ww_X0_cutFactor cI cM a_this a_this_low a_this_high v_cut v_empty v_high v_low) H → va_D A (ww_X0_cutFactor cI cM a_this a_this_low a_this_high v_cut v_empty v_high v_low) → va_S A s.heap H locs → lv_has ls 14 [(0, .ref a_this), (1, .int x1), (2, .int x2), (3, .int x3)] → W p l e rm_X0_cutFactor s m args below meth c H locs 0 0 (MQ below (g_QV D (g_tys cI cM) A (ww_X0_cutFactor cI cM a_this a_this_low a_this_high o_cut o_empty o_high o_low)) args s 0 0 A) (F0 m 0 ls []) := by
  obtain ⟨hx, hb, hr, hml, hown, hts, hlocks⟩ := id C0
  intro v_cut v_empty v_high v_low x1 x2 x3 H locs ls hf hP hD hS hl
  unfold f_X0_cutFactor at hf
  refine lv_aload_n hx hb dX0_cutFactor_0 rfl (lv_at hl 0 rfl) ?_
  refine va_get (D := D) (ci := 0) (v := .int v_empty) (C := RX0) (T := TX0) (N := 4) hx hb hts (fun _ h => (List.mem_cons_of_mem _ (List.mem_append_right _ h))) hown hK hP 0 rfl rfl 3 (by decide) (hts (.fieldLink RX0 24 "FloatBoxes$Cutter" "empty" "Z") (List.mem_cons_of_mem _ (List.mem_append_left _ (List.mem_append_left _ (List.mem_of_getElem? (i := 0) rfl))))) (fun _ h9 => h9) rfl dX0_cutFactor_1 ?_
  refine lv_if_eq (tgt := 8) hx hb dX0_cutFactor_4 (by decide) (fun c4 => ?_) (fun c4 => ?_)
  · replace hf := o_t c4 hf
    refine lv_aload_n hx hb dX0_cutFactor_8 rfl (lv_at hl 0 rfl) ?_
    refine va_get (D := D) (ci := 0) (v := .ref a_this_high) (C := RX0) (T := TX0) (N := 4) hx hb hts (fun _ h => (List.mem_cons_of_mem _ (List.mem_append_right _ h))) hown hK hP 0 rfl rfl 1 (by decide) (hts (.fieldLink RX0 15 "FloatBoxes$Cutter" "high" "[I") (List.mem_cons_of_mem _ (List.mem_append_left _ (List.mem_append_left _ (List.mem_of_getElem? (i := 1) rfl))))) (fun _ h9 => h9) rfl dX0_cutFactor_9 ?_
    refine lv_iload_n hx hb dX0_cutFactor_12 rfl (lv_at hl 1 rfl) ?_
    obtain ⟨h13, hf⟩ := o_in_go hf
    refine va_iald hx hb hK hP 1 0 rfl rfl h13 dX0_cutFactor_13 ?_
    refine lv_iconst (v := 1) hx hb dX0_cutFactor_14 (by decide) ?_
    refine lv_iadd hx hb dX0_cutFactor_15 ?_
    refine lv_topi (fun t16 et16 => ?_)
    replace hf := o_nm_go et16 hf
    refine lv_istore (lv' := [(4, .int t16), (0, .ref a_this), (1, .int x1), (2, .int x2), (3, .int x3)]) hx hb dX0_cutFactor_16 hl (by decide) rfl (fun ls hl => ?_)
    refine lv_aload_n hx hb dX0_cutFactor_18 rfl (lv_at hl 1 rfl) ?_
    refine va_get (D := D) (ci := 0) (v := .ref a_this_low) (C := RX0) (T := TX0) (N := 4) hx hb hts (fun _ h => (List.mem_cons_of_mem _ (List.mem_append_right _ h))) hown hK hP 0 rfl rfl 0 (by decide) (hts (.fieldLink RX0 9 "FloatBoxes$Cutter" "low" "[I") (List.mem_cons_of_mem _ (List.mem_append_left _ (List.mem_append_left _ (List.mem_of_getElem? (i := 2) rfl))))) (fun _ h9 => h9) rfl dX0_cutFactor_19 ?_
    refine lv_iload_n hx hb dX0_cutFactor_22 rfl (lv_at hl 2 rfl) ?_
    obtain ⟨h23, hf⟩ := o_in_go hf
    refine va_iald hx hb hK hP 2 0 rfl rfl h23 dX0_cutFactor_23 ?_
    refine lv_iconst (v := 1) hx hb dX0_cutFactor_24 (by decide) ?_
    refine lv_isub hx hb dX0_cutFactor_25 ?_
    refine lv_topi (fun t26 et26 => ?_)
    replace hf := o_nm_go et26 hf
    refine lv_istore (lv' := [(5, .int t26), (4, .int t16), (0, .ref a_this), (1, .int x1), (2, .int x2), (3, .int x3)]) hx hb dX0_cutFactor_26 hl (by decide) rfl (fun ls hl => ?_)
    refine lv_iconst (v := 0) hx hb dX0_cutFactor_28 (by decide) ?_
    refine lv_istore (lv' := [(6, .int 0), (5, .int t26), (4, .int t16), (0, .ref a_this), (1, .int x1), (2, .int x2), (3, .int x3)]) hx hb dX0_cutFactor_29 hl (by decide) rfl (fun ls hl => ?_)
    exact w_X0_cutFactor_L31 C0 hA hK N v_cut v_empty v_high v_low x1 x2 x3 t16 t26 0 H locs ls hf hP hD hS (lv_sub hl [3, 4, 5, 6, 2, 1, 0] rfl)
  · replace hf := o_f c4 hf
    obtain ⟨q0, y0⟩ := o_rp hf
    obtain ⟨q1, y1⟩ := o_rp y0
    obtain ⟨q2, y2⟩ := o_rp y1
    have q3 := Option.some.inj y2
    subst q0 q1 q2 q3
    exact g_vret hx hb hr hlocks hP hD hK hS dX0_cutFactor_7
set_option maxHeartbeats 4000000 in
set_option maxRecDepth 100000 in
theorem c_X0_cutFactor (l : Launch) (D : va_G) (cI cM : ClassId) (a_this a_this_low a_this_high : Nat) (sz : Nat) (v_cut : Int32) (v_empty : Int32) (v_high : Nat → Int32) (v_low : Nat → Int32) {N : Nat} {x1 : Int32} {x2 : Int32} {x3 : Int32} {o_cut : Int32} {o_empty : Int32} {o_high : Nat → Int32} {o_low : Nat → Int32} (hf : f_X0_cutFactor N v_cut v_empty v_high v_low x1 x2 x3 = some (o_cut, o_empty, o_high, o_low)) : Met l yX0_cutFactor wsX0_cutFactor rm_X0_cutFactor (g_Pc D (g_tys cI cM) (ww_X0_cutFactor cI cM a_this a_this_low a_this_high v_cut v_empty v_high v_low) sz [.ref a_this, .int x1, .int x2, .int x3]) (g_QV D (g_tys cI cM) (va_A (ww_X0_cutFactor cI cM a_this a_this_low a_this_high v_cut v_empty v_high v_low) sz) (ww_X0_cutFactor cI cM a_this a_this_low a_this_high o_cut o_empty o_high o_low)) 0 0 (va_A (ww_X0_cutFactor cI cM a_this a_this_low a_this_high v_cut v_empty v_high v_low) sz) := by
  refine g_met (cc := cX0_cutFactor) (maxL := 14) (ret := none) (Qc := fun D A => g_QV D (g_tys cI cM) A (ww_X0_cutFactor cI cM a_this a_this_low a_this_high o_cut o_empty o_high o_low)) (by decide) rfl ?_
  intro p e s m below meth c A C0 hA hK hP hD
  have hl := lv_entry ([.ref a_this, .int x1, .int x2, .int x3]) (n := 14) (Nat.le_of_ble_eq_true rfl)
  rw [lg_entry_eq]
  generalize (lg_sl ([.ref a_this, .int x1, .int x2, .int x3]) ++ List.replicate (14 - (lg_sl ([.ref a_this, .int x1, .int x2, .int x3])).length) Slot.unset).toArray = ls at hl ⊢
  have hl : lv_has ls 14 [(0, .ref a_this), (1, .int x1), (2, .int x2), (3, .int x3)] := hl
  exact w_X0_cutFactor_B0 C0 hA hK v_cut v_empty v_high v_low x1 x2 x3 s.heap [] ls hf hP hD va_S.rf (lv_sub hl [0, 1, 2, 3] rfl)
/-! FloatBoxes$Cutter.cutMost(III)V -/
abbrev rm_X0_cutMost : Room := { frames := 2, cells := 0, slots := 0, locals := 46 }
abbrev ww_X0_cutMost (cI cM : ClassId) (a_this a_this_low a_this_high : Nat) (v_cut : Int32) (v_empty : Int32) (v_low : Nat → Int32) (v_high : Nat → Int32) : va_W := [(a_this, .inr (0, [.ref a_this_low, .ref a_this_high, .int v_cut, .int v_empty])), (a_this_low, .inl (cI, 6, .inl v_low)), (a_this_high, .inl (cI, 6, .inl v_high))]
def f_X0_cutMost_B108  (v_cut : Int32) (v_empty : Int32) (v_low : Nat → Int32) (v_high : Nat → Int32) (x3 : Int32) (z1 : Int32) (z2 : Int32) : Option (Int32 × Int32 × (Nat → Int32) × (Nat → Int32)) :=
  o_in x3 6 (
  o_b4 (f_X0_leave v_cut v_empty v_low v_high z1 z2 (v_high x3.toNatClampNeg)) (fun (v_cut_114 : Int32) (v_empty_114 : Int32) (v_low_114 : Nat → Int32) (v_high_114 : Nat → Int32) =>
  some (v_cut_114, v_empty_114, v_low_114, v_high_114)))
set_option maxHeartbeats 4000000 in
set_option maxRecDepth 100000 in
theorem w_X0_cutMost_B108 {p : Program} {l : Launch} {e : Env} {s : State} {m : MethodId} {args : Array Value} {below : List Frame} {meth : Method} {c : Code} {D : va_G} {cI cM : ClassId} {A : Nat → Prop} {a_this a_this_low a_this_high : Nat} {o_cut : Int32} {o_empty : Int32} {o_low : Nat → Int32} {o_high : Nat → Int32} (C0 : g_cx cX0_cutMost none 4 RX0 wsX0_cutMost p s m args meth c) (hA : ∀ q, s.heap.size ≤ q → A q) (hK : va_K D vwCl (g_tys cI cM) s) : ∀ (v_cut : Int32) (v_empty : Int32) (v_low : Nat → Int32) (v_high : Nat → Int32) (x3 : Int32) (z1 : Int32) (z2 : Int32) (H : Heap) (locs : List Loc) (ls : Array Slot), f_X0_cutMost_B108 v_cut v_empty v_low v_high x3 z1 z2 = some (o_cut, o_empty, o_low, o_high) → va_P D vwCl (ww_X0_cutMost cI cM a_this a_this_low a_this_high v_cut v_empty v_low v_high) H → va_D A (ww_X0_cutMost cI cM a_this a_this_low a_this_high v_cut v_empty v_low v_high) → va_S A s.heap H locs → lv_has ls 4 [(0, .ref a_this), (3, .int x3)] → W p l e rm_X0_cutMost s m args below meth c H locs 0 0 (MQ below (g_QV D (g_tys cI cM) A (ww_X0_cutMost cI cM a_this a_this_low a_this_high o_cut o_empty o_low o_high)) args s 0 0 A) (F0 m 108 ls [.int z2, .int z1, .ref a_this]) := by
  obtain ⟨hx, hb, hr, hml, hown, hts, hlocks⟩ := id C0
  intro v_cut v_empty v_low v_high x3 z1 z2 H locs ls hf hP hD hS hl
  unfold f_X0_cutMost_B108 at hf
  refine lv_aload_n hx hb dX0_cutMost_108 rfl (lv_at hl 0 rfl) ?_
  refine va_get (D := D) (ci := 0) (v := .ref a_this_high) (C := RX0) (T := TX0) (N := 4) hx hb hts (fun _ h => (List.mem_cons_of_mem _ (List.mem_append_right _ h))) hown hK hP 0 rfl rfl 1 (by decide) (hts (.fieldLink RX0 15 "FloatBoxes$Cutter" "high" "[I") (List.mem_cons_of_mem _ (List.mem_append_left _ (List.mem_of_getElem? (i := 5) rfl)))) (fun _ h9 => h9) rfl dX0_cutMost_109 ?_
  refine lv_iload_n hx hb dX0_cutMost_112 rfl (lv_at hl 1 rfl) ?_
  obtain ⟨h113, hf⟩ := o_in_go hf
  refine va_iald hx hb hK hP 2 0 rfl rfl h113 dX0_cutMost_113 ?_
  obtain ⟨v_cut_114, v_empty_114, v_low_114, v_high_114, hg114, hf⟩ := o_b4_go hf
  refine g_callVv (wn := (ww_X0_cutMost cI cM a_this a_this_low a_this_high v_cut_114 v_empty_114 v_low_114 v_high_114)) (rest := []) ⟨hx, hb, hml, hown, hts⟩ (c_X0_leave l D cI cM a_this a_this_low a_this_high H.size v_cut v_empty v_low v_high hg114) (cwV 3 hts gX0_cutMost_X0_leave rfl rfl rfl (by decide +kernel) ⟨Nat.le_of_ble_eq_true rfl, Nat.le_of_ble_eq_true rfl⟩) hK hP hD hS hA [0, 1, 2] [] [0, 1, 2] rfl rfl rfl rfl rfl rfl (by decide) rfl rfl rfl hl.1 rfl (Nat.le_of_ble_eq_true rfl) dX0_cutMost_114 (fun H locs hP hD hS => ?_)
  obtain ⟨q0, y0⟩ := o_rp hf
  obtain ⟨q1, y1⟩ := o_rp y0
  obtain ⟨q2, y2⟩ := o_rp y1
  have q3 := Option.some.inj y2
  subst q0 q1 q2 q3
  exact g_vret hx hb hr hlocks hP hD hK hS dX0_cutMost_117
def f_X0_cutMost_B67  (v_cut : Int32) (v_empty : Int32) (v_low : Nat → Int32) (v_high : Nat → Int32) (x1 : Int32) (x2 : Int32) (x3 : Int32) (z1 : Int32) (z2 : Int32) : Option (Int32 × Int32 × (Nat → Int32) × (Nat → Int32)) :=
  o_in x3 6 (
  o_b4 (f_X0_leave v_cut v_empty v_low v_high z1 z2 (v_high x3.toNatClampNeg)) (fun (v_cut_73 : Int32) (v_empty_73 : Int32) (v_low_73 : Nat → Int32) (v_high_73 : Nat → Int32) =>
  o_in x1 6 (
  o_in x3 6 (
  if (v_low_73 x3.toNatClampNeg) ≤ (v_high_73 x1.toNatClampNeg) then
    o_in x2 6 (
    f_X0_cutMost_B108 v_cut_73 v_empty_73 v_low_73 v_high_73 x3 x2 (v_low_73 x2.toNatClampNeg))
  else
    o_in x3 6 (
    f_X0_cutMost_B108 v_cut_73 v_empty_73 v_low_73 v_high_73 x3 x2 (v_low_73 x3.toNatClampNeg))))))
set_option maxHeartbeats 4000000 in
set_option maxRecDepth 100000 in
theorem w_X0_cutMost_B67 {p : Program} {l : Launch} {e : Env} {s : State} {m : MethodId} {args : Array Value} {below : List Frame} {meth : Method} {c : Code} {D : va_G} {cI cM : ClassId} {A : Nat → Prop} {a_this a_this_low a_this_high : Nat} {o_cut : Int32} {o_empty : Int32} {o_low : Nat → Int32} {o_high : Nat → Int32} (C0 : g_cx cX0_cutMost none 4 RX0 wsX0_cutMost p s m args meth c) (hA : ∀ q, s.heap.size ≤ q → A q) (hK : va_K D vwCl (g_tys cI cM) s) : ∀ (v_cut : Int32) (v_empty : Int32) (v_low : Nat → Int32) (v_high : Nat → Int32) (x1 : Int32) (x2 : Int32) (x3 : Int32) (z1 : Int32) (z2 : Int32) (H : Heap) (locs : List Loc) (ls : Array Slot), f_X0_cutMost_B67 v_cut v_empty v_low v_high x1 x2 x3 z1 z2 = some (o_cut, o_empty, o_low, o_high) → va_P D vwCl (ww_X0_cutMost cI cM a_this a_this_low a_this_high v_cut v_empty v_low v_high) H → va_D A (ww_X0_cutMost cI cM a_this a_this_low a_this_high v_cut v_empty v_low v_high) → va_S A s.heap H locs → lv_has ls 4 [(0, .ref a_this), (1, .int x1), (2, .int x2), (3, .int x3)] → W p l e rm_X0_cutMost s m args below meth c H locs 0 0 (MQ below (g_QV D (g_tys cI cM) A (ww_X0_cutMost cI cM a_this a_this_low a_this_high o_cut o_empty o_low o_high)) args s 0 0 A) (F0 m 67 ls [.int z2, .int z1, .ref a_this]) := by
  obtain ⟨hx, hb, hr, hml, hown, hts, hlocks⟩ := id C0
  intro v_cut v_empty v_low v_high x1 x2 x3 z1 z2 H locs ls hf hP hD hS hl
  unfold f_X0_cutMost_B67 at hf
  refine lv_aload_n hx hb dX0_cutMost_67 rfl (lv_at hl 0 rfl) ?_
  refine va_get (D := D) (ci := 0) (v := .ref a_this_high) (C := RX0) (T := TX0) (N := 4) hx hb hts (fun _ h => (List.mem_cons_of_mem _ (List.mem_append_right _ h))) hown hK hP 0 rfl rfl 1 (by decide) (hts (.fieldLink RX0 15 "FloatBoxes$Cutter" "high" "[I") (List.mem_cons_of_mem _ (List.mem_append_left _ (List.mem_of_getElem? (i := 5) rfl)))) (fun _ h9 => h9) rfl dX0_cutMost_68 ?_
  refine lv_iload_n hx hb dX0_cutMost_71 rfl (lv_at hl 3 rfl) ?_
  obtain ⟨h72, hf⟩ := o_in_go hf
  refine va_iald hx hb hK hP 2 0 rfl rfl h72 dX0_cutMost_72 ?_
  obtain ⟨v_cut_73, v_empty_73, v_low_73, v_high_73, hg73, hf⟩ := o_b4_go hf
  refine g_callVv (wn := (ww_X0_cutMost cI cM a_this a_this_low a_this_high v_cut_73 v_empty_73 v_low_73 v_high_73)) (rest := []) ⟨hx, hb, hml, hown, hts⟩ (c_X0_leave l D cI cM a_this a_this_low a_this_high H.size v_cut v_empty v_low v_high hg73) (cwV 3 hts gX0_cutMost_X0_leave rfl rfl rfl (by decide +kernel) ⟨Nat.le_of_ble_eq_true rfl, Nat.le_of_ble_eq_true rfl⟩) hK hP hD hS hA [0, 1, 2] [] [0, 1, 2] rfl rfl rfl rfl rfl rfl (by decide) rfl rfl rfl hl.1 rfl (Nat.le_of_ble_eq_true rfl) dX0_cutMost_73 (fun H locs hP hD hS => ?_)
  refine lv_aload_n hx hb dX0_cutMost_76 rfl (lv_at hl 0 rfl) ?_
  refine lv_iload_n hx hb dX0_cutMost_77 rfl (lv_at hl 2 rfl) ?_
  refine lv_aload_n hx hb dX0_cutMost_78 rfl (lv_at hl 0 rfl) ?_
  refine va_get (D := D) (ci := 0) (v := .ref a_this_high) (C := RX0) (T := TX0) (N := 4) hx hb hts (fun _ h => (List.mem_cons_of_mem _ (List.mem_append_right _ h))) hown hK hP 0 rfl rfl 1 (by decide) (hts (.fieldLink RX0 15 "FloatBoxes$Cutter" "high" "[I") (List.mem_cons_of_mem _ (List.mem_append_left _ (List.mem_of_getElem? (i := 5) rfl)))) (fun _ h9 => h9) rfl dX0_cutMost_79 ?_
  refine lv_iload_n hx hb dX0_cutMost_82 rfl (lv_at hl 1 rfl) ?_
  obtain ⟨h83, hf⟩ := o_in_go hf
  refine va_iald hx hb hK hP 2 0 rfl rfl h83 dX0_cutMost_83 ?_
  refine lv_aload_n hx hb dX0_cutMost_84 rfl (lv_at hl 0 rfl) ?_
  refine va_get (D := D) (ci := 0) (v := .ref a_this_low) (C := RX0) (T := TX0) (N := 4) hx hb hts (fun _ h => (List.mem_cons_of_mem _ (List.mem_append_right _ h))) hown hK hP 0 rfl rfl 0 (by decide) (hts (.fieldLink RX0 9 "FloatBoxes$Cutter" "low" "[I") (List.mem_cons_of_mem _ (List.mem_append_left _ (List.mem_of_getElem? (i := 0) rfl)))) (fun _ h9 => h9) rfl dX0_cutMost_85 ?_
  refine lv_iload_n hx hb dX0_cutMost_88 rfl (lv_at hl 3 rfl) ?_
  obtain ⟨h89, hf⟩ := o_in_go hf
  refine va_iald hx hb hK hP 1 0 rfl rfl h89 dX0_cutMost_89 ?_
  refine lv_icmp_ge (tgt := 102) hx hb dX0_cutMost_90 (by decide) (fun c90 => ?_) (fun c90 => ?_)
  · replace hf := o_t c90 hf
    refine lv_aload_n hx hb dX0_cutMost_102 rfl (lv_at hl 0 rfl) ?_
    refine va_get (D := D) (ci := 0) (v := .ref a_this_low) (C := RX0) (T := TX0) (N := 4) hx hb hts (fun _ h => (List.mem_cons_of_mem _ (List.mem_append_right _ h))) hown hK hP 0 rfl rfl 0 (by decide) (hts (.fieldLink RX0 9 "FloatBoxes$Cutter" "low" "[I") (List.mem_cons_of_mem _ (List.mem_append_left _ (List.mem_of_getElem? (i := 0) rfl)))) (fun _ h9 => h9) rfl dX0_cutMost_103 ?_
    refine lv_iload_n hx hb dX0_cutMost_106 rfl (lv_at hl 2 rfl) ?_
    obtain ⟨h107, hf⟩ := o_in_go hf
    refine va_iald hx hb hK hP 1 0 rfl rfl h107 dX0_cutMost_107 ?_
    exact w_X0_cutMost_B108 C0 hA hK v_cut_73 v_empty_73 v_low_73 v_high_73 x3 x2 (v_low_73 x2.toNatClampNeg) H locs ls hf hP hD hS (lv_sub hl [0, 3] rfl)
  · replace hf := o_f c90 hf
    refine lv_aload_n hx hb dX0_cutMost_93 rfl (lv_at hl 0 rfl) ?_
    refine va_get (D := D) (ci := 0) (v := .ref a_this_low) (C := RX0) (T := TX0) (N := 4) hx hb hts (fun _ h => (List.mem_cons_of_mem _ (List.mem_append_right _ h))) hown hK hP 0 rfl rfl 0 (by decide) (hts (.fieldLink RX0 9 "FloatBoxes$Cutter" "low" "[I") (List.mem_cons_of_mem _ (List.mem_append_left _ (List.mem_of_getElem? (i := 0) rfl)))) (fun _ h9 => h9) rfl dX0_cutMost_94 ?_
    refine lv_iload_n hx hb dX0_cutMost_97 rfl (lv_at hl 3 rfl) ?_
    obtain ⟨h98, hf⟩ := o_in_go hf
    refine va_iald hx hb hK hP 1 0 rfl rfl h98 dX0_cutMost_98 ?_
    refine lv_goto (tgt := 108) hx hb dX0_cutMost_99 (by decide) ?_
    exact w_X0_cutMost_B108 C0 hA hK v_cut_73 v_empty_73 v_low_73 v_high_73 x3 x2 (v_low_73 x3.toNatClampNeg) H locs ls hf hP hD hS (lv_sub hl [0, 3] rfl)
def f_X0_cutMost  (v_cut : Int32) (v_empty : Int32) (v_low : Nat → Int32) (v_high : Nat → Int32) (x1 : Int32) (x2 : Int32) (x3 : Int32) : Option (Int32 × Int32 × (Nat → Int32) × (Nat → Int32)) :=
  o_in x1 6 (
  o_in x2 6 (
  o_in x1 6 (
  o_in x2 6 (
  o_b4 (f_X0_leave v_cut v_empty v_low v_high x3 (o_max (v_low x1.toNatClampNeg) (v_low x2.toNatClampNeg)) (o_max (v_high x1.toNatClampNeg) (v_high x2.toNatClampNeg))) (fun (v_cut_32 : Int32) (v_empty_32 : Int32) (v_low_32 : Nat → Int32) (v_high_32 : Nat → Int32) =>
  o_in x2 6 (
  o_in x3 6 (
  if (v_low_32 x3.toNatClampNeg) ≤ (v_high_32 x2.toNatClampNeg) then
    o_in x1 6 (
    f_X0_cutMost_B67 v_cut_32 v_empty_32 v_low_32 v_high_32 x1 x2 x3 x1 (v_low_32 x1.toNatClampNeg))
  else
    o_in x3 6 (
    f_X0_cutMost_B67 v_cut_32 v_empty_32 v_low_32 v_high_32 x1 x2 x3 x1 (v_low_32 x3.toNatClampNeg)))))))))
set_option maxHeartbeats 4000000 in
set_option maxRecDepth 100000 in
theorem w_X0_cutMost_B0 {p : Program} {l : Launch} {e : Env} {s : State} {m : MethodId} {args : Array Value} {below : List Frame} {meth : Method} {c : Code} {D : va_G} {cI cM : ClassId} {A : Nat → Prop} {a_this a_this_low a_this_high : Nat} {o_cut : Int32} {o_empty : Int32} {o_low : Nat → Int32} {o_high : Nat → Int32} (C0 : g_cx cX0_cutMost none 4 RX0 wsX0_cutMost p s m args meth c) (hA : ∀ q, s.heap.size ≤ q → A q) (hK : va_K D vwCl (g_tys cI cM) s) : ∀ (v_cut : Int32) (v_empty : Int32) (v_low : Nat → Int32) (v_high : Nat → Int32) (x1 : Int32) (x2 : Int32) (x3 : Int32) (H : Heap) (locs : List Loc) (ls : Array Slot), f_X0_cutMost v_cut v_empty v_low v_high x1 x2 x3 = some (o_cut, o_empty, o_low, o_high) → va_P D vwCl (ww_X0_cutMost cI cM a_this a_this_low a_this_high v_cut v_empty v_low v_high) H → va_D A (ww_X0_cutMost cI cM a_this a_this_low a_this_high v_cut v_empty v_low v_high) → va_S A s.heap H locs → lv_has ls 4 [(0, .ref a_this), (1, .int x1), (2, .int x2), (3, .int x3)] → W p l e rm_X0_cutMost s m args below meth c H locs 0 0 (MQ below (g_QV D (g_tys cI cM) A (ww_X0_cutMost cI cM a_this a_this_low a_this_high o_cut o_empty o_low o_high)) args s 0 0 A) (F0 m 0 ls []) := by
  obtain ⟨hx, hb, hr, hml, hown, hts, hlocks⟩ := id C0
  intro v_cut v_empty v_low v_high x1 x2 x3 H locs ls hf hP hD hS hl
  unfold f_X0_cutMost at hf
  refine lv_aload_n hx hb dX0_cutMost_0 rfl (lv_at hl 0 rfl) ?_
  refine lv_iload_n hx hb dX0_cutMost_1 rfl (lv_at hl 3 rfl) ?_
  refine lv_aload_n hx hb dX0_cutMost_2 rfl (lv_at hl 0 rfl) ?_
  refine va_get (D := D) (ci := 0) (v := .ref a_this_low) (C := RX0) (T := TX0) (N := 4) hx hb hts (fun _ h => (List.mem_cons_of_mem _ (List.mem_append_right _ h))) hown hK hP 0 rfl rfl 0 (by decide) (hts (.fieldLink RX0 9 "FloatBoxes$Cutter" "low" "[I") (List.mem_cons_of_mem _ (List.mem_append_left _ (List.mem_of_getElem? (i := 0) rfl)))) (fun _ h9 => h9) rfl dX0_cutMost_3 ?_
  refine lv_iload_n hx hb dX0_cutMost_6 rfl (lv_at hl 1 rfl) ?_
  obtain ⟨h7, hf⟩ := o_in_go hf
  refine va_iald hx hb hK hP 1 0 rfl rfl h7 dX0_cutMost_7 ?_
  refine lv_aload_n hx hb dX0_cutMost_8 rfl (lv_at hl 0 rfl) ?_
  refine va_get (D := D) (ci := 0) (v := .ref a_this_low) (C := RX0) (T := TX0) (N := 4) hx hb hts (fun _ h => (List.mem_cons_of_mem _ (List.mem_append_right _ h))) hown hK hP 0 rfl rfl 0 (by decide) (hts (.fieldLink RX0 9 "FloatBoxes$Cutter" "low" "[I") (List.mem_cons_of_mem _ (List.mem_append_left _ (List.mem_of_getElem? (i := 0) rfl)))) (fun _ h9 => h9) rfl dX0_cutMost_9 ?_
  refine lv_iload_n hx hb dX0_cutMost_12 rfl (lv_at hl 2 rfl) ?_
  obtain ⟨h13, hf⟩ := o_in_go hf
  refine va_iald hx hb hK hP 1 0 rfl rfl h13 dX0_cutMost_13 ?_
  refine va_mmax hx hb (by rw [hml]; exact hl.1.symm) hown (hts (.methodLink RX0 69 Lib.Math.max.name) (List.mem_cons_of_mem _ (List.mem_append_left _ (List.mem_of_getElem? (i := 1) rfl)))) (hts (.static Lib.Math.max.name) (List.mem_cons_of_mem _ (List.mem_append_left _ (List.mem_of_getElem? (i := 2) rfl)))) (hts (.initialized "java/lang/Math") (List.mem_cons_of_mem _ (List.mem_append_left _ (List.mem_of_getElem? (i := 3) rfl)))) (hts (.code Lib.Math.max.name Lib.Math.max.code 2 (some .int)) (List.mem_cons_of_mem _ (List.mem_append_left _ (List.mem_of_getElem? (i := 4) rfl)))) (Nat.le_of_ble_eq_true rfl) (Nat.le_of_ble_eq_true rfl) (Nat.zero_le _) (Nat.zero_le _) dX0_cutMost_14 ?_
  refine lv_aload_n hx hb dX0_cutMost_17 rfl (lv_at hl 0 rfl) ?_
  refine va_get (D := D) (ci := 0) (v := .ref a_this_high) (C := RX0) (T := TX0) (N := 4) hx hb hts (fun _ h => (List.mem_cons_of_mem _ (List.mem_append_right _ h))) hown hK hP 0 rfl rfl 1 (by decide) (hts (.fieldLink RX0 15 "FloatBoxes$Cutter" "high" "[I") (List.mem_cons_of_mem _ (List.mem_append_left _ (List.mem_of_getElem? (i := 5) rfl)))) (fun _ h9 => h9) rfl dX0_cutMost_18 ?_
  refine lv_iload_n hx hb dX0_cutMost_21 rfl (lv_at hl 1 rfl) ?_
  obtain ⟨h22, hf⟩ := o_in_go hf
  refine va_iald hx hb hK hP 2 0 rfl rfl h22 dX0_cutMost_22 ?_
  refine lv_aload_n hx hb dX0_cutMost_23 rfl (lv_at hl 0 rfl) ?_
  refine va_get (D := D) (ci := 0) (v := .ref a_this_high) (C := RX0) (T := TX0) (N := 4) hx hb hts (fun _ h => (List.mem_cons_of_mem _ (List.mem_append_right _ h))) hown hK hP 0 rfl rfl 1 (by decide) (hts (.fieldLink RX0 15 "FloatBoxes$Cutter" "high" "[I") (List.mem_cons_of_mem _ (List.mem_append_left _ (List.mem_of_getElem? (i := 5) rfl)))) (fun _ h9 => h9) rfl dX0_cutMost_24 ?_
  refine lv_iload_n hx hb dX0_cutMost_27 rfl (lv_at hl 2 rfl) ?_
  obtain ⟨h28, hf⟩ := o_in_go hf
  refine va_iald hx hb hK hP 2 0 rfl rfl h28 dX0_cutMost_28 ?_
  refine va_mmax hx hb (by rw [hml]; exact hl.1.symm) hown (hts (.methodLink RX0 69 Lib.Math.max.name) (List.mem_cons_of_mem _ (List.mem_append_left _ (List.mem_of_getElem? (i := 1) rfl)))) (hts (.static Lib.Math.max.name) (List.mem_cons_of_mem _ (List.mem_append_left _ (List.mem_of_getElem? (i := 2) rfl)))) (hts (.initialized "java/lang/Math") (List.mem_cons_of_mem _ (List.mem_append_left _ (List.mem_of_getElem? (i := 3) rfl)))) (hts (.code Lib.Math.max.name Lib.Math.max.code 2 (some .int)) (List.mem_cons_of_mem _ (List.mem_append_left _ (List.mem_of_getElem? (i := 4) rfl)))) (Nat.le_of_ble_eq_true rfl) (Nat.le_of_ble_eq_true rfl) (Nat.zero_le _) (Nat.zero_le _) dX0_cutMost_29 ?_
  obtain ⟨v_cut_32, v_empty_32, v_low_32, v_high_32, hg32, hf⟩ := o_b4_go hf
  refine g_callVv (wn := (ww_X0_cutMost cI cM a_this a_this_low a_this_high v_cut_32 v_empty_32 v_low_32 v_high_32)) (rest := []) ⟨hx, hb, hml, hown, hts⟩ (c_X0_leave l D cI cM a_this a_this_low a_this_high H.size v_cut v_empty v_low v_high hg32) (cwV 3 hts gX0_cutMost_X0_leave rfl rfl rfl (by decide +kernel) ⟨Nat.le_of_ble_eq_true rfl, Nat.le_of_ble_eq_true rfl⟩) hK hP hD hS hA [0, 1, 2] [] [0, 1, 2] rfl rfl rfl rfl rfl rfl (by decide) rfl rfl rfl hl.1 rfl (Nat.le_of_ble_eq_true rfl) dX0_cutMost_32 (fun H locs hP hD hS => ?_)
  refine lv_aload_n hx hb dX0_cutMost_35 rfl (lv_at hl 0 rfl) ?_
  refine lv_iload_n hx hb dX0_cutMost_36 rfl (lv_at hl 1 rfl) ?_
  refine lv_aload_n hx hb dX0_cutMost_37 rfl (lv_at hl 0 rfl) ?_
  refine va_get (D := D) (ci := 0) (v := .ref a_this_high) (C := RX0) (T := TX0) (N := 4) hx hb hts (fun _ h => (List.mem_cons_of_mem _ (List.mem_append_right _ h))) hown hK hP 0 rfl rfl 1 (by decide) (hts (.fieldLink RX0 15 "FloatBoxes$Cutter" "high" "[I") (List.mem_cons_of_mem _ (List.mem_append_left _ (List.mem_of_getElem? (i := 5) rfl)))) (fun _ h9 => h9) rfl dX0_cutMost_38 ?_
  refine lv_iload_n hx hb dX0_cutMost_41 rfl (lv_at hl 2 rfl) ?_
  obtain ⟨h42, hf⟩ := o_in_go hf
  refine va_iald hx hb hK hP 2 0 rfl rfl h42 dX0_cutMost_42 ?_
  refine lv_aload_n hx hb dX0_cutMost_43 rfl (lv_at hl 0 rfl) ?_
  refine va_get (D := D) (ci := 0) (v := .ref a_this_low) (C := RX0) (T := TX0) (N := 4) hx hb hts (fun _ h => (List.mem_cons_of_mem _ (List.mem_append_right _ h))) hown hK hP 0 rfl rfl 0 (by decide) (hts (.fieldLink RX0 9 "FloatBoxes$Cutter" "low" "[I") (List.mem_cons_of_mem _ (List.mem_append_left _ (List.mem_of_getElem? (i := 0) rfl)))) (fun _ h9 => h9) rfl dX0_cutMost_44 ?_
  refine lv_iload_n hx hb dX0_cutMost_47 rfl (lv_at hl 3 rfl) ?_
  obtain ⟨h48, hf⟩ := o_in_go hf
  refine va_iald hx hb hK hP 1 0 rfl rfl h48 dX0_cutMost_48 ?_
  refine lv_icmp_ge (tgt := 61) hx hb dX0_cutMost_49 (by decide) (fun c49 => ?_) (fun c49 => ?_)
  · replace hf := o_t c49 hf
    refine lv_aload_n hx hb dX0_cutMost_61 rfl (lv_at hl 0 rfl) ?_
    refine va_get (D := D) (ci := 0) (v := .ref a_this_low) (C := RX0) (T := TX0) (N := 4) hx hb hts (fun _ h => (List.mem_cons_of_mem _ (List.mem_append_right _ h))) hown hK hP 0 rfl rfl 0 (by decide) (hts (.fieldLink RX0 9 "FloatBoxes$Cutter" "low" "[I") (List.mem_cons_of_mem _ (List.mem_append_left _ (List.mem_of_getElem? (i := 0) rfl)))) (fun _ h9 => h9) rfl dX0_cutMost_62 ?_
    refine lv_iload_n hx hb dX0_cutMost_65 rfl (lv_at hl 1 rfl) ?_
    obtain ⟨h66, hf⟩ := o_in_go hf
    refine va_iald hx hb hK hP 1 0 rfl rfl h66 dX0_cutMost_66 ?_
    exact w_X0_cutMost_B67 C0 hA hK v_cut_32 v_empty_32 v_low_32 v_high_32 x1 x2 x3 x1 (v_low_32 x1.toNatClampNeg) H locs ls hf hP hD hS (lv_sub hl [0, 1, 2, 3] rfl)
  · replace hf := o_f c49 hf
    refine lv_aload_n hx hb dX0_cutMost_52 rfl (lv_at hl 0 rfl) ?_
    refine va_get (D := D) (ci := 0) (v := .ref a_this_low) (C := RX0) (T := TX0) (N := 4) hx hb hts (fun _ h => (List.mem_cons_of_mem _ (List.mem_append_right _ h))) hown hK hP 0 rfl rfl 0 (by decide) (hts (.fieldLink RX0 9 "FloatBoxes$Cutter" "low" "[I") (List.mem_cons_of_mem _ (List.mem_append_left _ (List.mem_of_getElem? (i := 0) rfl)))) (fun _ h9 => h9) rfl dX0_cutMost_53 ?_
    refine lv_iload_n hx hb dX0_cutMost_56 rfl (lv_at hl 3 rfl) ?_
    obtain ⟨h57, hf⟩ := o_in_go hf
    refine va_iald hx hb hK hP 1 0 rfl rfl h57 dX0_cutMost_57 ?_
    refine lv_goto (tgt := 67) hx hb dX0_cutMost_58 (by decide) ?_
    exact w_X0_cutMost_B67 C0 hA hK v_cut_32 v_empty_32 v_low_32 v_high_32 x1 x2 x3 x1 (v_low_32 x3.toNatClampNeg) H locs ls hf hP hD hS (lv_sub hl [0, 1, 2, 3] rfl)
set_option maxHeartbeats 4000000 in
set_option maxRecDepth 100000 in
theorem c_X0_cutMost (l : Launch) (D : va_G) (cI cM : ClassId) (a_this a_this_low a_this_high : Nat) (sz : Nat) (v_cut : Int32) (v_empty : Int32) (v_low : Nat → Int32) (v_high : Nat → Int32) {x1 : Int32} {x2 : Int32} {x3 : Int32} {o_cut : Int32} {o_empty : Int32} {o_low : Nat → Int32} {o_high : Nat → Int32} (hf : f_X0_cutMost v_cut v_empty v_low v_high x1 x2 x3 = some (o_cut, o_empty, o_low, o_high)) : Met l yX0_cutMost wsX0_cutMost rm_X0_cutMost (g_Pc D (g_tys cI cM) (ww_X0_cutMost cI cM a_this a_this_low a_this_high v_cut v_empty v_low v_high) sz [.ref a_this, .int x1, .int x2, .int x3]) (g_QV D (g_tys cI cM) (va_A (ww_X0_cutMost cI cM a_this a_this_low a_this_high v_cut v_empty v_low v_high) sz) (ww_X0_cutMost cI cM a_this a_this_low a_this_high o_cut o_empty o_low o_high)) 0 0 (va_A (ww_X0_cutMost cI cM a_this a_this_low a_this_high v_cut v_empty v_low v_high) sz) := by
  refine g_met (cc := cX0_cutMost) (maxL := 4) (ret := none) (Qc := fun D A => g_QV D (g_tys cI cM) A (ww_X0_cutMost cI cM a_this a_this_low a_this_high o_cut o_empty o_low o_high)) (by decide) rfl ?_
  intro p e s m below meth c A C0 hA hK hP hD
  have hl := lv_entry ([.ref a_this, .int x1, .int x2, .int x3]) (n := 4) (Nat.le_of_ble_eq_true rfl)
  rw [lg_entry_eq]
  generalize (lg_sl ([.ref a_this, .int x1, .int x2, .int x3]) ++ List.replicate (4 - (lg_sl ([.ref a_this, .int x1, .int x2, .int x3])).length) Slot.unset).toArray = ls at hl ⊢
  have hl : lv_has ls 4 [(0, .ref a_this), (1, .int x1), (2, .int x2), (3, .int x3)] := hl
  exact w_X0_cutMost_B0 C0 hA hK v_cut v_empty v_low v_high x1 x2 x3 s.heap [] ls hf hP hD va_S.rf (lv_sub hl [0, 1, 2, 3] rfl)
/-! FloatBoxes$Cutter.cutLess(II)V -/
abbrev rm_X0_cutLess : Room := { frames := 2, cells := 0, slots := 0, locals := 46 }
abbrev ww_X0_cutLess (cI cM : ClassId) (a_this a_this_low a_this_high : Nat) (v_cut : Int32) (v_empty : Int32) (v_low : Nat → Int32) (v_high : Nat → Int32) : va_W := [(a_this, .inr (0, [.ref a_this_low, .ref a_this_high, .int v_cut, .int v_empty])), (a_this_low, .inl (cI, 6, .inl v_low)), (a_this_high, .inl (cI, 6, .inl v_high))]
def f_X0_cutLess  (v_cut : Int32) (v_empty : Int32) (v_low : Nat → Int32) (v_high : Nat → Int32) (x1 : Int32) (x2 : Int32) : Option (Int32 × Int32 × (Nat → Int32) × (Nat → Int32)) :=
  o_in x1 6 (
  o_in x2 6 (
  o_b1 (f_X4_rank (v_high x2.toNatClampNeg)) (fun (r14 : Int32) =>
  o_b1 (f_X4_lastOfRank (r14 - 1)) (fun (r19 : Int32) =>
  o_b4 (f_X0_leave v_cut v_empty v_low v_high x1 (v_low x1.toNatClampNeg) r19) (fun (v_cut_22 : Int32) (v_empty_22 : Int32) (v_low_22 : Nat → Int32) (v_high_22 : Nat → Int32) =>
  o_in x1 6 (
  o_b1 (f_X4_rank (v_low_22 x1.toNatClampNeg)) (fun (r33 : Int32) =>
  o_b1 (f_X4_firstOfRank (r33 + 1)) (fun (r38 : Int32) =>
  o_in x2 6 (
  o_b4 (f_X0_leave v_cut_22 v_empty_22 v_low_22 v_high_22 x2 r38 (v_high_22 x2.toNatClampNeg)) (fun (v_cut_47 : Int32) (v_empty_47 : Int32) (v_low_47 : Nat → Int32) (v_high_47 : Nat → Int32) =>
  some (v_cut_47, v_empty_47, v_low_47, v_high_47)))))))))))
set_option maxHeartbeats 4000000 in
set_option maxRecDepth 100000 in
theorem w_X0_cutLess_B0 {p : Program} {l : Launch} {e : Env} {s : State} {m : MethodId} {args : Array Value} {below : List Frame} {meth : Method} {c : Code} {D : va_G} {cI cM : ClassId} {A : Nat → Prop} {a_this a_this_low a_this_high : Nat} {o_cut : Int32} {o_empty : Int32} {o_low : Nat → Int32} {o_high : Nat → Int32} (C0 : g_cx cX0_cutLess none 3 RX0 wsX0_cutLess p s m args meth c) (hA : ∀ q, s.heap.size ≤ q → A q) (hK : va_K D vwCl (g_tys cI cM) s) : ∀ (v_cut : Int32) (v_empty : Int32) (v_low : Nat → Int32) (v_high : Nat → Int32) (x1 : Int32) (x2 : Int32) (H : Heap) (locs : List Loc) (ls : Array Slot), f_X0_cutLess v_cut v_empty v_low v_high x1 x2 = some (o_cut, o_empty, o_low, o_high) → va_P D vwCl (ww_X0_cutLess cI cM a_this a_this_low a_this_high v_cut v_empty v_low v_high) H → va_D A (ww_X0_cutLess cI cM a_this a_this_low a_this_high v_cut v_empty v_low v_high) → va_S A s.heap H locs → lv_has ls 3 [(0, .ref a_this), (1, .int x1), (2, .int x2)] → W p l e rm_X0_cutLess s m args below meth c H locs 0 0 (MQ below (g_QV D (g_tys cI cM) A (ww_X0_cutLess cI cM a_this a_this_low a_this_high o_cut o_empty o_low o_high)) args s 0 0 A) (F0 m 0 ls []) := by
  obtain ⟨hx, hb, hr, hml, hown, hts, hlocks⟩ := id C0
  intro v_cut v_empty v_low v_high x1 x2 H locs ls hf hP hD hS hl
  unfold f_X0_cutLess at hf
  refine lv_aload_n hx hb dX0_cutLess_0 rfl (lv_at hl 0 rfl) ?_
  refine lv_iload_n hx hb dX0_cutLess_1 rfl (lv_at hl 1 rfl) ?_
  refine lv_aload_n hx hb dX0_cutLess_2 rfl (lv_at hl 0 rfl) ?_
  refine va_get (D := D) (ci := 0) (v := .ref a_this_low) (C := RX0) (T := TX0) (N := 4) hx hb hts (fun _ h => (List.mem_cons_of_mem _ (List.mem_append_right _ h))) hown hK hP 0 rfl rfl 0 (by decide) (hts (.fieldLink RX0 9 "FloatBoxes$Cutter" "low" "[I") (List.mem_cons_of_mem _ (List.mem_append_left _ (List.mem_append_left _ (List.mem_of_getElem? (i := 0) rfl))))) (fun _ h9 => h9) rfl dX0_cutLess_3 ?_
  refine lv_iload_n hx hb dX0_cutLess_6 rfl (lv_at hl 1 rfl) ?_
  obtain ⟨h7, hf⟩ := o_in_go hf
  refine va_iald hx hb hK hP 1 0 rfl rfl h7 dX0_cutLess_7 ?_
  refine lv_aload_n hx hb dX0_cutLess_8 rfl (lv_at hl 0 rfl) ?_
  refine va_get (D := D) (ci := 0) (v := .ref a_this_high) (C := RX0) (T := TX0) (N := 4) hx hb hts (fun _ h => (List.mem_cons_of_mem _ (List.mem_append_right _ h))) hown hK hP 0 rfl rfl 1 (by decide) (hts (.fieldLink RX0 15 "FloatBoxes$Cutter" "high" "[I") (List.mem_cons_of_mem _ (List.mem_append_left _ (List.mem_append_left _ (List.mem_of_getElem? (i := 1) rfl))))) (fun _ h9 => h9) rfl dX0_cutLess_9 ?_
  refine lv_iload_n hx hb dX0_cutLess_12 rfl (lv_at hl 2 rfl) ?_
  obtain ⟨h13, hf⟩ := o_in_go hf
  refine va_iald hx hb hK hP 2 0 rfl rfl h13 dX0_cutLess_13 ?_
  obtain ⟨r14, hg14, hf⟩ := o_b1_go hf
  refine g_callSi (rest := [.int (v_low x1.toNatClampNeg), .int x1, .ref a_this]) ⟨hx, hb, hml, hown, hts⟩ (c_X4_rank l hg14) (va_cwS 1 hts gX0_cutLess_X4_rank rfl rfl rfl (by decide +kernel) ⟨Nat.le_of_ble_eq_true rfl, Nat.le_of_ble_eq_true rfl⟩) rfl hl.1 rfl (Nat.le_of_ble_eq_true rfl) dX0_cutLess_14 ?_
  refine lv_iconst (v := 1) hx hb dX0_cutLess_17 (by decide) ?_
  refine lv_isub hx hb dX0_cutLess_18 ?_
  obtain ⟨r19, hg19, hf⟩ := o_b1_go hf
  refine g_callSi (rest := [.int (v_low x1.toNatClampNeg), .int x1, .ref a_this]) ⟨hx, hb, hml, hown, hts⟩ (c_X4_lastOfRank l hg19) (va_cwS 1 hts gX0_cutLess_X4_lastOfRank rfl rfl rfl (by decide +kernel) ⟨Nat.le_of_ble_eq_true rfl, Nat.le_of_ble_eq_true rfl⟩) rfl hl.1 rfl (Nat.le_of_ble_eq_true rfl) dX0_cutLess_19 ?_
  obtain ⟨v_cut_22, v_empty_22, v_low_22, v_high_22, hg22, hf⟩ := o_b4_go hf
  refine g_callVv (wn := (ww_X0_cutLess cI cM a_this a_this_low a_this_high v_cut_22 v_empty_22 v_low_22 v_high_22)) (rest := []) ⟨hx, hb, hml, hown, hts⟩ (c_X0_leave l D cI cM a_this a_this_low a_this_high H.size v_cut v_empty v_low v_high hg22) (cwV 3 hts gX0_cutLess_X0_leave rfl rfl rfl (by decide +kernel) ⟨Nat.le_of_ble_eq_true rfl, Nat.le_of_ble_eq_true rfl⟩) hK hP hD hS hA [0, 1, 2] [] [0, 1, 2] rfl rfl rfl rfl rfl rfl (by decide) rfl rfl rfl hl.1 rfl (Nat.le_of_ble_eq_true rfl) dX0_cutLess_22 (fun H locs hP hD hS => ?_)
  refine lv_aload_n hx hb dX0_cutLess_25 rfl (lv_at hl 0 rfl) ?_
  refine lv_iload_n hx hb dX0_cutLess_26 rfl (lv_at hl 2 rfl) ?_
  refine lv_aload_n hx hb dX0_cutLess_27 rfl (lv_at hl 0 rfl) ?_
  refine va_get (D := D) (ci := 0) (v := .ref a_this_low) (C := RX0) (T := TX0) (N := 4) hx hb hts (fun _ h => (List.mem_cons_of_mem _ (List.mem_append_right _ h))) hown hK hP 0 rfl rfl 0 (by decide) (hts (.fieldLink RX0 9 "FloatBoxes$Cutter" "low" "[I") (List.mem_cons_of_mem _ (List.mem_append_left _ (List.mem_append_left _ (List.mem_of_getElem? (i := 0) rfl))))) (fun _ h9 => h9) rfl dX0_cutLess_28 ?_
  refine lv_iload_n hx hb dX0_cutLess_31 rfl (lv_at hl 1 rfl) ?_
  obtain ⟨h32, hf⟩ := o_in_go hf
  refine va_iald hx hb hK hP 1 0 rfl rfl h32 dX0_cutLess_32 ?_
  obtain ⟨r33, hg33, hf⟩ := o_b1_go hf
  refine g_callSi (rest := [.int x2, .ref a_this]) ⟨hx, hb, hml, hown, hts⟩ (c_X4_rank l hg33) (va_cwS 1 hts gX0_cutLess_X4_rank rfl rfl rfl (by decide +kernel) ⟨Nat.le_of_ble_eq_true rfl, Nat.le_of_ble_eq_true rfl⟩) rfl hl.1 rfl (Nat.le_of_ble_eq_true rfl) dX0_cutLess_33 ?_
  refine lv_iconst (v := 1) hx hb dX0_cutLess_36 (by decide) ?_
  refine lv_iadd hx hb dX0_cutLess_37 ?_
  obtain ⟨r38, hg38, hf⟩ := o_b1_go hf
  refine g_callSi (rest := [.int x2, .ref a_this]) ⟨hx, hb, hml, hown, hts⟩ (c_X4_firstOfRank l hg38) (va_cwS 1 hts gX0_cutLess_X4_firstOfRank rfl rfl rfl (by decide +kernel) ⟨Nat.le_of_ble_eq_true rfl, Nat.le_of_ble_eq_true rfl⟩) rfl hl.1 rfl (Nat.le_of_ble_eq_true rfl) dX0_cutLess_38 ?_
  refine lv_aload_n hx hb dX0_cutLess_41 rfl (lv_at hl 0 rfl) ?_
  refine va_get (D := D) (ci := 0) (v := .ref a_this_high) (C := RX0) (T := TX0) (N := 4) hx hb hts (fun _ h => (List.mem_cons_of_mem _ (List.mem_append_right _ h))) hown hK hP 0 rfl rfl 1 (by decide) (hts (.fieldLink RX0 15 "FloatBoxes$Cutter" "high" "[I") (List.mem_cons_of_mem _ (List.mem_append_left _ (List.mem_append_left _ (List.mem_of_getElem? (i := 1) rfl))))) (fun _ h9 => h9) rfl dX0_cutLess_42 ?_
  refine lv_iload_n hx hb dX0_cutLess_45 rfl (lv_at hl 2 rfl) ?_
  obtain ⟨h46, hf⟩ := o_in_go hf
  refine va_iald hx hb hK hP 2 0 rfl rfl h46 dX0_cutLess_46 ?_
  obtain ⟨v_cut_47, v_empty_47, v_low_47, v_high_47, hg47, hf⟩ := o_b4_go hf
  refine g_callVv (wn := (ww_X0_cutLess cI cM a_this a_this_low a_this_high v_cut_47 v_empty_47 v_low_47 v_high_47)) (rest := []) ⟨hx, hb, hml, hown, hts⟩ (c_X0_leave l D cI cM a_this a_this_low a_this_high H.size v_cut_22 v_empty_22 v_low_22 v_high_22 hg47) (cwV 3 hts gX0_cutLess_X0_leave rfl rfl rfl (by decide +kernel) ⟨Nat.le_of_ble_eq_true rfl, Nat.le_of_ble_eq_true rfl⟩) hK hP hD hS hA [0, 1, 2] [] [0, 1, 2] rfl rfl rfl rfl rfl rfl (by decide) rfl rfl rfl hl.1 rfl (Nat.le_of_ble_eq_true rfl) dX0_cutLess_47 (fun H locs hP hD hS => ?_)
  obtain ⟨q0, y0⟩ := o_rp hf
  obtain ⟨q1, y1⟩ := o_rp y0
  obtain ⟨q2, y2⟩ := o_rp y1
  have q3 := Option.some.inj y2
  subst q0 q1 q2 q3
  exact g_vret hx hb hr hlocks hP hD hK hS dX0_cutLess_50
set_option maxHeartbeats 4000000 in
set_option maxRecDepth 100000 in
theorem c_X0_cutLess (l : Launch) (D : va_G) (cI cM : ClassId) (a_this a_this_low a_this_high : Nat) (sz : Nat) (v_cut : Int32) (v_empty : Int32) (v_low : Nat → Int32) (v_high : Nat → Int32) {x1 : Int32} {x2 : Int32} {o_cut : Int32} {o_empty : Int32} {o_low : Nat → Int32} {o_high : Nat → Int32} (hf : f_X0_cutLess v_cut v_empty v_low v_high x1 x2 = some (o_cut, o_empty, o_low, o_high)) : Met l yX0_cutLess wsX0_cutLess rm_X0_cutLess (g_Pc D (g_tys cI cM) (ww_X0_cutLess cI cM a_this a_this_low a_this_high v_cut v_empty v_low v_high) sz [.ref a_this, .int x1, .int x2]) (g_QV D (g_tys cI cM) (va_A (ww_X0_cutLess cI cM a_this a_this_low a_this_high v_cut v_empty v_low v_high) sz) (ww_X0_cutLess cI cM a_this a_this_low a_this_high o_cut o_empty o_low o_high)) 0 0 (va_A (ww_X0_cutLess cI cM a_this a_this_low a_this_high v_cut v_empty v_low v_high) sz) := by
  refine g_met (cc := cX0_cutLess) (maxL := 3) (ret := none) (Qc := fun D A => g_QV D (g_tys cI cM) A (ww_X0_cutLess cI cM a_this a_this_low a_this_high o_cut o_empty o_low o_high)) (by decide) rfl ?_
  intro p e s m below meth c A C0 hA hK hP hD
  have hl := lv_entry ([.ref a_this, .int x1, .int x2]) (n := 3) (Nat.le_of_ble_eq_true rfl)
  rw [lg_entry_eq]
  generalize (lg_sl ([.ref a_this, .int x1, .int x2]) ++ List.replicate (3 - (lg_sl ([.ref a_this, .int x1, .int x2])).length) Slot.unset).toArray = ls at hl ⊢
  have hl : lv_has ls 3 [(0, .ref a_this), (1, .int x1), (2, .int x2)] := hl
  exact w_X0_cutLess_B0 C0 hA hK v_cut v_empty v_low v_high x1 x2 s.heap [] ls hf hP hD va_S.rf (lv_sub hl [0, 1, 2] rfl)
/-! FloatBoxes$Cutter.cutSame(II)V -/
abbrev rm_X0_cutSame : Room := { frames := 2, cells := 0, slots := 0, locals := 46 }
abbrev ww_X0_cutSame (cI cM : ClassId) (a_this a_this_low a_this_high : Nat) (v_cut : Int32) (v_empty : Int32) (v_low : Nat → Int32) (v_high : Nat → Int32) : va_W := [(a_this, .inr (0, [.ref a_this_low, .ref a_this_high, .int v_cut, .int v_empty])), (a_this_low, .inl (cI, 6, .inl v_low)), (a_this_high, .inl (cI, 6, .inl v_high))]
def f_X0_cutSame  (v_cut : Int32) (v_empty : Int32) (v_low : Nat → Int32) (v_high : Nat → Int32) (x1 : Int32) (x2 : Int32) : Option (Int32 × Int32 × (Nat → Int32) × (Nat → Int32)) :=
  o_in x2 6 (
  o_b1 (f_X4_rank (v_low x2.toNatClampNeg)) (fun (r8 : Int32) =>
  o_b1 (f_X4_firstOfRank r8) (fun (r11 : Int32) =>
  o_in x2 6 (
  o_b1 (f_X4_rank (v_high x2.toNatClampNeg)) (fun (r20 : Int32) =>
  o_b1 (f_X4_lastOfRank r20) (fun (r23 : Int32) =>
  o_b4 (f_X0_leave v_cut v_empty v_low v_high x1 r11 r23) (fun (v_cut_26 : Int32) (v_empty_26 : Int32) (v_low_26 : Nat → Int32) (v_high_26 : Nat → Int32) =>
  o_in x1 6 (
  o_b1 (f_X4_rank (v_low_26 x1.toNatClampNeg)) (fun (r37 : Int32) =>
  o_b1 (f_X4_firstOfRank r37) (fun (r40 : Int32) =>
  o_in x1 6 (
  o_b1 (f_X4_rank (v_high_26 x1.toNatClampNeg)) (fun (r49 : Int32) =>
  o_b1 (f_X4_lastOfRank r49) (fun (r52 : Int32) =>
  o_b4 (f_X0_leave v_cut_26 v_empty_26 v_low_26 v_high_26 x2 r40 r52) (fun (v_cut_55 : Int32) (v_empty_55 : Int32) (v_low_55 : Nat → Int32) (v_high_55 : Nat → Int32) =>
  some (v_cut_55, v_empty_55, v_low_55, v_high_55)))))))))))))))
set_option maxHeartbeats 4000000 in
set_option maxRecDepth 100000 in
theorem w_X0_cutSame_B0 {p : Program} {l : Launch} {e : Env} {s : State} {m : MethodId} {args : Array Value} {below : List Frame} {meth : Method} {c : Code} {D : va_G} {cI cM : ClassId} {A : Nat → Prop} {a_this a_this_low a_this_high : Nat} {o_cut : Int32} {o_empty : Int32} {o_low : Nat → Int32} {o_high : Nat → Int32} (C0 : g_cx cX0_cutSame none 3 RX0 wsX0_cutSame p s m args meth c) (hA : ∀ q, s.heap.size ≤ q → A q) (hK : va_K D vwCl (g_tys cI cM) s) : ∀ (v_cut : Int32) (v_empty : Int32) (v_low : Nat → Int32) (v_high : Nat → Int32) (x1 : Int32) (x2 : Int32) (H : Heap) (locs : List Loc) (ls : Array Slot), f_X0_cutSame v_cut v_empty v_low v_high x1 x2 = some (o_cut, o_empty, o_low, o_high) → va_P D vwCl (ww_X0_cutSame cI cM a_this a_this_low a_this_high v_cut v_empty v_low v_high) H → va_D A (ww_X0_cutSame cI cM a_this a_this_low a_this_high v_cut v_empty v_low v_high) → va_S A s.heap H locs → lv_has ls 3 [(0, .ref a_this), (1, .int x1), (2, .int x2)] → W p l e rm_X0_cutSame s m args below meth c H locs 0 0 (MQ below (g_QV D (g_tys cI cM) A (ww_X0_cutSame cI cM a_this a_this_low a_this_high o_cut o_empty o_low o_high)) args s 0 0 A) (F0 m 0 ls []) := by
  obtain ⟨hx, hb, hr, hml, hown, hts, hlocks⟩ := id C0
  intro v_cut v_empty v_low v_high x1 x2 H locs ls hf hP hD hS hl
  unfold f_X0_cutSame at hf
  refine lv_aload_n hx hb dX0_cutSame_0 rfl (lv_at hl 0 rfl) ?_
  refine lv_iload_n hx hb dX0_cutSame_1 rfl (lv_at hl 1 rfl) ?_
  refine lv_aload_n hx hb dX0_cutSame_2 rfl (lv_at hl 0 rfl) ?_
  refine va_get (D := D) (ci := 0) (v := .ref a_this_low) (C := RX0) (T := TX0) (N := 4) hx hb hts (fun _ h => (List.mem_cons_of_mem _ (List.mem_append_right _ h))) hown hK hP 0 rfl rfl 0 (by decide) (hts (.fieldLink RX0 9 "FloatBoxes$Cutter" "low" "[I") (List.mem_cons_of_mem _ (List.mem_append_left _ (List.mem_append_left _ (List.mem_of_getElem? (i := 0) rfl))))) (fun _ h9 => h9) rfl dX0_cutSame_3 ?_
  refine lv_iload_n hx hb dX0_cutSame_6 rfl (lv_at hl 2 rfl) ?_
  obtain ⟨h7, hf⟩ := o_in_go hf
  refine va_iald hx hb hK hP 1 0 rfl rfl h7 dX0_cutSame_7 ?_
  obtain ⟨r8, hg8, hf⟩ := o_b1_go hf
  refine g_callSi (rest := [.int x1, .ref a_this]) ⟨hx, hb, hml, hown, hts⟩ (c_X4_rank l hg8) (va_cwS 1 hts gX0_cutSame_X4_rank rfl rfl rfl (by decide +kernel) ⟨Nat.le_of_ble_eq_true rfl, Nat.le_of_ble_eq_true rfl⟩) rfl hl.1 rfl (Nat.le_of_ble_eq_true rfl) dX0_cutSame_8 ?_
  obtain ⟨r11, hg11, hf⟩ := o_b1_go hf
  refine g_callSi (rest := [.int x1, .ref a_this]) ⟨hx, hb, hml, hown, hts⟩ (c_X4_firstOfRank l hg11) (va_cwS 1 hts gX0_cutSame_X4_firstOfRank rfl rfl rfl (by decide +kernel) ⟨Nat.le_of_ble_eq_true rfl, Nat.le_of_ble_eq_true rfl⟩) rfl hl.1 rfl (Nat.le_of_ble_eq_true rfl) dX0_cutSame_11 ?_
  refine lv_aload_n hx hb dX0_cutSame_14 rfl (lv_at hl 0 rfl) ?_
  refine va_get (D := D) (ci := 0) (v := .ref a_this_high) (C := RX0) (T := TX0) (N := 4) hx hb hts (fun _ h => (List.mem_cons_of_mem _ (List.mem_append_right _ h))) hown hK hP 0 rfl rfl 1 (by decide) (hts (.fieldLink RX0 15 "FloatBoxes$Cutter" "high" "[I") (List.mem_cons_of_mem _ (List.mem_append_left _ (List.mem_append_left _ (List.mem_of_getElem? (i := 1) rfl))))) (fun _ h9 => h9) rfl dX0_cutSame_15 ?_
  refine lv_iload_n hx hb dX0_cutSame_18 rfl (lv_at hl 2 rfl) ?_
  obtain ⟨h19, hf⟩ := o_in_go hf
  refine va_iald hx hb hK hP 2 0 rfl rfl h19 dX0_cutSame_19 ?_
  obtain ⟨r20, hg20, hf⟩ := o_b1_go hf
  refine g_callSi (rest := [.int r11, .int x1, .ref a_this]) ⟨hx, hb, hml, hown, hts⟩ (c_X4_rank l hg20) (va_cwS 1 hts gX0_cutSame_X4_rank rfl rfl rfl (by decide +kernel) ⟨Nat.le_of_ble_eq_true rfl, Nat.le_of_ble_eq_true rfl⟩) rfl hl.1 rfl (Nat.le_of_ble_eq_true rfl) dX0_cutSame_20 ?_
  obtain ⟨r23, hg23, hf⟩ := o_b1_go hf
  refine g_callSi (rest := [.int r11, .int x1, .ref a_this]) ⟨hx, hb, hml, hown, hts⟩ (c_X4_lastOfRank l hg23) (va_cwS 1 hts gX0_cutSame_X4_lastOfRank rfl rfl rfl (by decide +kernel) ⟨Nat.le_of_ble_eq_true rfl, Nat.le_of_ble_eq_true rfl⟩) rfl hl.1 rfl (Nat.le_of_ble_eq_true rfl) dX0_cutSame_23 ?_
  obtain ⟨v_cut_26, v_empty_26, v_low_26, v_high_26, hg26, hf⟩ := o_b4_go hf
  refine g_callVv (wn := (ww_X0_cutSame cI cM a_this a_this_low a_this_high v_cut_26 v_empty_26 v_low_26 v_high_26)) (rest := []) ⟨hx, hb, hml, hown, hts⟩ (c_X0_leave l D cI cM a_this a_this_low a_this_high H.size v_cut v_empty v_low v_high hg26) (cwV 3 hts gX0_cutSame_X0_leave rfl rfl rfl (by decide +kernel) ⟨Nat.le_of_ble_eq_true rfl, Nat.le_of_ble_eq_true rfl⟩) hK hP hD hS hA [0, 1, 2] [] [0, 1, 2] rfl rfl rfl rfl rfl rfl (by decide) rfl rfl rfl hl.1 rfl (Nat.le_of_ble_eq_true rfl) dX0_cutSame_26 (fun H locs hP hD hS => ?_)
  refine lv_aload_n hx hb dX0_cutSame_29 rfl (lv_at hl 0 rfl) ?_
  refine lv_iload_n hx hb dX0_cutSame_30 rfl (lv_at hl 2 rfl) ?_
  refine lv_aload_n hx hb dX0_cutSame_31 rfl (lv_at hl 0 rfl) ?_
  refine va_get (D := D) (ci := 0) (v := .ref a_this_low) (C := RX0) (T := TX0) (N := 4) hx hb hts (fun _ h => (List.mem_cons_of_mem _ (List.mem_append_right _ h))) hown hK hP 0 rfl rfl 0 (by decide) (hts (.fieldLink RX0 9 "FloatBoxes$Cutter" "low" "[I") (List.mem_cons_of_mem _ (List.mem_append_left _ (List.mem_append_left _ (List.mem_of_getElem? (i := 0) rfl))))) (fun _ h9 => h9) rfl dX0_cutSame_32 ?_
  refine lv_iload_n hx hb dX0_cutSame_35 rfl (lv_at hl 1 rfl) ?_
  obtain ⟨h36, hf⟩ := o_in_go hf
  refine va_iald hx hb hK hP 1 0 rfl rfl h36 dX0_cutSame_36 ?_
  obtain ⟨r37, hg37, hf⟩ := o_b1_go hf
  refine g_callSi (rest := [.int x2, .ref a_this]) ⟨hx, hb, hml, hown, hts⟩ (c_X4_rank l hg37) (va_cwS 1 hts gX0_cutSame_X4_rank rfl rfl rfl (by decide +kernel) ⟨Nat.le_of_ble_eq_true rfl, Nat.le_of_ble_eq_true rfl⟩) rfl hl.1 rfl (Nat.le_of_ble_eq_true rfl) dX0_cutSame_37 ?_
  obtain ⟨r40, hg40, hf⟩ := o_b1_go hf
  refine g_callSi (rest := [.int x2, .ref a_this]) ⟨hx, hb, hml, hown, hts⟩ (c_X4_firstOfRank l hg40) (va_cwS 1 hts gX0_cutSame_X4_firstOfRank rfl rfl rfl (by decide +kernel) ⟨Nat.le_of_ble_eq_true rfl, Nat.le_of_ble_eq_true rfl⟩) rfl hl.1 rfl (Nat.le_of_ble_eq_true rfl) dX0_cutSame_40 ?_
  refine lv_aload_n hx hb dX0_cutSame_43 rfl (lv_at hl 0 rfl) ?_
  refine va_get (D := D) (ci := 0) (v := .ref a_this_high) (C := RX0) (T := TX0) (N := 4) hx hb hts (fun _ h => (List.mem_cons_of_mem _ (List.mem_append_right _ h))) hown hK hP 0 rfl rfl 1 (by decide) (hts (.fieldLink RX0 15 "FloatBoxes$Cutter" "high" "[I") (List.mem_cons_of_mem _ (List.mem_append_left _ (List.mem_append_left _ (List.mem_of_getElem? (i := 1) rfl))))) (fun _ h9 => h9) rfl dX0_cutSame_44 ?_
  refine lv_iload_n hx hb dX0_cutSame_47 rfl (lv_at hl 1 rfl) ?_
  obtain ⟨h48, hf⟩ := o_in_go hf
  refine va_iald hx hb hK hP 2 0 rfl rfl h48 dX0_cutSame_48 ?_
  obtain ⟨r49, hg49, hf⟩ := o_b1_go hf
  refine g_callSi (rest := [.int r40, .int x2, .ref a_this]) ⟨hx, hb, hml, hown, hts⟩ (c_X4_rank l hg49) (va_cwS 1 hts gX0_cutSame_X4_rank rfl rfl rfl (by decide +kernel) ⟨Nat.le_of_ble_eq_true rfl, Nat.le_of_ble_eq_true rfl⟩) rfl hl.1 rfl (Nat.le_of_ble_eq_true rfl) dX0_cutSame_49 ?_
  obtain ⟨r52, hg52, hf⟩ := o_b1_go hf
  refine g_callSi (rest := [.int r40, .int x2, .ref a_this]) ⟨hx, hb, hml, hown, hts⟩ (c_X4_lastOfRank l hg52) (va_cwS 1 hts gX0_cutSame_X4_lastOfRank rfl rfl rfl (by decide +kernel) ⟨Nat.le_of_ble_eq_true rfl, Nat.le_of_ble_eq_true rfl⟩) rfl hl.1 rfl (Nat.le_of_ble_eq_true rfl) dX0_cutSame_52 ?_
  obtain ⟨v_cut_55, v_empty_55, v_low_55, v_high_55, hg55, hf⟩ := o_b4_go hf
  refine g_callVv (wn := (ww_X0_cutSame cI cM a_this a_this_low a_this_high v_cut_55 v_empty_55 v_low_55 v_high_55)) (rest := []) ⟨hx, hb, hml, hown, hts⟩ (c_X0_leave l D cI cM a_this a_this_low a_this_high H.size v_cut_26 v_empty_26 v_low_26 v_high_26 hg55) (cwV 3 hts gX0_cutSame_X0_leave rfl rfl rfl (by decide +kernel) ⟨Nat.le_of_ble_eq_true rfl, Nat.le_of_ble_eq_true rfl⟩) hK hP hD hS hA [0, 1, 2] [] [0, 1, 2] rfl rfl rfl rfl rfl rfl (by decide) rfl rfl rfl hl.1 rfl (Nat.le_of_ble_eq_true rfl) dX0_cutSame_55 (fun H locs hP hD hS => ?_)
  obtain ⟨q0, y0⟩ := o_rp hf
  obtain ⟨q1, y1⟩ := o_rp y0
  obtain ⟨q2, y2⟩ := o_rp y1
  have q3 := Option.some.inj y2
  subst q0 q1 q2 q3
  exact g_vret hx hb hr hlocks hP hD hK hS dX0_cutSame_58
set_option maxHeartbeats 4000000 in
set_option maxRecDepth 100000 in
theorem c_X0_cutSame (l : Launch) (D : va_G) (cI cM : ClassId) (a_this a_this_low a_this_high : Nat) (sz : Nat) (v_cut : Int32) (v_empty : Int32) (v_low : Nat → Int32) (v_high : Nat → Int32) {x1 : Int32} {x2 : Int32} {o_cut : Int32} {o_empty : Int32} {o_low : Nat → Int32} {o_high : Nat → Int32} (hf : f_X0_cutSame v_cut v_empty v_low v_high x1 x2 = some (o_cut, o_empty, o_low, o_high)) : Met l yX0_cutSame wsX0_cutSame rm_X0_cutSame (g_Pc D (g_tys cI cM) (ww_X0_cutSame cI cM a_this a_this_low a_this_high v_cut v_empty v_low v_high) sz [.ref a_this, .int x1, .int x2]) (g_QV D (g_tys cI cM) (va_A (ww_X0_cutSame cI cM a_this a_this_low a_this_high v_cut v_empty v_low v_high) sz) (ww_X0_cutSame cI cM a_this a_this_low a_this_high o_cut o_empty o_low o_high)) 0 0 (va_A (ww_X0_cutSame cI cM a_this a_this_low a_this_high v_cut v_empty v_low v_high) sz) := by
  refine g_met (cc := cX0_cutSame) (maxL := 3) (ret := none) (Qc := fun D A => g_QV D (g_tys cI cM) A (ww_X0_cutSame cI cM a_this a_this_low a_this_high o_cut o_empty o_low o_high)) (by decide) rfl ?_
  intro p e s m below meth c A C0 hA hK hP hD
  have hl := lv_entry ([.ref a_this, .int x1, .int x2]) (n := 3) (Nat.le_of_ble_eq_true rfl)
  rw [lg_entry_eq]
  generalize (lg_sl ([.ref a_this, .int x1, .int x2]) ++ List.replicate (3 - (lg_sl ([.ref a_this, .int x1, .int x2])).length) Slot.unset).toArray = ls at hl ⊢
  have hl : lv_has ls 3 [(0, .ref a_this), (1, .int x1), (2, .int x2)] := hl
  exact w_X0_cutSame_B0 C0 hA hK v_cut v_empty v_low v_high x1 x2 s.heap [] ls hf hP hD va_S.rf (lv_sub hl [0, 1, 2] rfl)
/-! FloatBoxes$Cutter.cutTurned(II)V -/
abbrev rm_X0_cutTurned : Room := { frames := 2, cells := 0, slots := 0, locals := 46 }
abbrev ww_X0_cutTurned (cI cM : ClassId) (a_this a_this_low a_this_high : Nat) (v_cut : Int32) (v_empty : Int32) (v_high : Nat → Int32) (v_low : Nat → Int32) : va_W := [(a_this, .inr (0, [.ref a_this_low, .ref a_this_high, .int v_cut, .int v_empty])), (a_this_high, .inl (cI, 6, .inl v_high)), (a_this_low, .inl (cI, 6, .inl v_low))]
def f_X0_cutTurned  (v_cut : Int32) (v_empty : Int32) (v_high : Nat → Int32) (v_low : Nat → Int32) (x1 : Int32) (x2 : Int32) : Option (Int32 × Int32 × (Nat → Int32) × (Nat → Int32)) :=
  o_in x1 6 (
  o_in x1 6 (
  o_b4 (f_X0_leave v_cut v_empty v_low v_high x2 (((-1)) - (v_high x1.toNatClampNeg)) (((-1)) - (v_low x1.toNatClampNeg))) (fun (v_cut_18 : Int32) (v_empty_18 : Int32) (v_low_18 : Nat → Int32) (v_high_18 : Nat → Int32) =>
  o_in x2 6 (
  o_in x2 6 (
  o_b4 (f_X0_leave v_cut_18 v_empty_18 v_low_18 v_high_18 x1 (((-1)) - (v_high_18 x2.toNatClampNeg)) (((-1)) - (v_low_18 x2.toNatClampNeg))) (fun (v_cut_39 : Int32) (v_empty_39 : Int32) (v_low_39 : Nat → Int32) (v_high_39 : Nat → Int32) =>
  some (v_cut_39, v_empty_39, v_high_39, v_low_39)))))))
set_option maxHeartbeats 4000000 in
set_option maxRecDepth 100000 in
theorem w_X0_cutTurned_B0 {p : Program} {l : Launch} {e : Env} {s : State} {m : MethodId} {args : Array Value} {below : List Frame} {meth : Method} {c : Code} {D : va_G} {cI cM : ClassId} {A : Nat → Prop} {a_this a_this_low a_this_high : Nat} {o_cut : Int32} {o_empty : Int32} {o_high : Nat → Int32} {o_low : Nat → Int32} (C0 : g_cx cX0_cutTurned none 3 RX0 wsX0_cutTurned p s m args meth c) (hA : ∀ q, s.heap.size ≤ q → A q) (hK : va_K D vwCl (g_tys cI cM) s) : ∀ (v_cut : Int32) (v_empty : Int32) (v_high : Nat → Int32) (v_low : Nat → Int32) (x1 : Int32) (x2 : Int32) (H : Heap) (locs : List Loc) (ls : Array Slot), f_X0_cutTurned v_cut v_empty v_high v_low x1 x2 = some (o_cut, o_empty, o_high, o_low) → va_P D vwCl (ww_X0_cutTurned cI cM a_this a_this_low a_this_high v_cut v_empty v_high v_low) H → va_D A (ww_X0_cutTurned cI cM a_this a_this_low a_this_high v_cut v_empty v_high v_low) → va_S A s.heap H locs → lv_has ls 3 [(0, .ref a_this), (1, .int x1), (2, .int x2)] → W p l e rm_X0_cutTurned s m args below meth c H locs 0 0 (MQ below (g_QV D (g_tys cI cM) A (ww_X0_cutTurned cI cM a_this a_this_low a_this_high o_cut o_empty o_high o_low)) args s 0 0 A) (F0 m 0 ls []) := by
  obtain ⟨hx, hb, hr, hml, hown, hts, hlocks⟩ := id C0
  intro v_cut v_empty v_high v_low x1 x2 H locs ls hf hP hD hS hl
  unfold f_X0_cutTurned at hf
  refine lv_aload_n hx hb dX0_cutTurned_0 rfl (lv_at hl 0 rfl) ?_
  refine lv_iload_n hx hb dX0_cutTurned_1 rfl (lv_at hl 2 rfl) ?_
  refine lv_iconst (v := (-1)) hx hb dX0_cutTurned_2 (by decide) ?_
  refine lv_aload_n hx hb dX0_cutTurned_3 rfl (lv_at hl 0 rfl) ?_
  refine va_get (D := D) (ci := 0) (v := .ref a_this_high) (C := RX0) (T := TX0) (N := 4) hx hb hts (fun _ h => (List.mem_cons_of_mem _ (List.mem_append_right _ h))) hown hK hP 0 rfl rfl 1 (by decide) (hts (.fieldLink RX0 15 "FloatBoxes$Cutter" "high" "[I") (List.mem_cons_of_mem _ (List.mem_append_left _ (List.mem_of_getElem? (i := 0) rfl)))) (fun _ h9 => h9) rfl dX0_cutTurned_4 ?_
  refine lv_iload_n hx hb dX0_cutTurned_7 rfl (lv_at hl 1 rfl) ?_
  obtain ⟨h8, hf⟩ := o_in_go hf
  refine va_iald hx hb hK hP 1 0 rfl rfl h8 dX0_cutTurned_8 ?_
  refine lv_isub hx hb dX0_cutTurned_9 ?_
  refine lv_iconst (v := (-1)) hx hb dX0_cutTurned_10 (by decide) ?_
  refine lv_aload_n hx hb dX0_cutTurned_11 rfl (lv_at hl 0 rfl) ?_
  refine va_get (D := D) (ci := 0) (v := .ref a_this_low) (C := RX0) (T := TX0) (N := 4) hx hb hts (fun _ h => (List.mem_cons_of_mem _ (List.mem_append_right _ h))) hown hK hP 0 rfl rfl 0 (by decide) (hts (.fieldLink RX0 9 "FloatBoxes$Cutter" "low" "[I") (List.mem_cons_of_mem _ (List.mem_append_left _ (List.mem_of_getElem? (i := 1) rfl)))) (fun _ h9 => h9) rfl dX0_cutTurned_12 ?_
  refine lv_iload_n hx hb dX0_cutTurned_15 rfl (lv_at hl 1 rfl) ?_
  obtain ⟨h16, hf⟩ := o_in_go hf
  refine va_iald hx hb hK hP 2 0 rfl rfl h16 dX0_cutTurned_16 ?_
  refine lv_isub hx hb dX0_cutTurned_17 ?_
  obtain ⟨v_cut_18, v_empty_18, v_low_18, v_high_18, hg18, hf⟩ := o_b4_go hf
  refine g_callVv (wn := (ww_X0_cutTurned cI cM a_this a_this_low a_this_high v_cut_18 v_empty_18 v_high_18 v_low_18)) (rest := []) ⟨hx, hb, hml, hown, hts⟩ (c_X0_leave l D cI cM a_this a_this_low a_this_high H.size v_cut v_empty v_low v_high hg18) (cwV 3 hts gX0_cutTurned_X0_leave rfl rfl rfl (by decide +kernel) ⟨Nat.le_of_ble_eq_true rfl, Nat.le_of_ble_eq_true rfl⟩) hK hP hD hS hA [0, 2, 1] [] [0, 2, 1] rfl rfl rfl rfl rfl rfl (by decide) rfl rfl rfl hl.1 rfl (Nat.le_of_ble_eq_true rfl) dX0_cutTurned_18 (fun H locs hP hD hS => ?_)
  refine lv_aload_n hx hb dX0_cutTurned_21 rfl (lv_at hl 0 rfl) ?_
  refine lv_iload_n hx hb dX0_cutTurned_22 rfl (lv_at hl 1 rfl) ?_
  refine lv_iconst (v := (-1)) hx hb dX0_cutTurned_23 (by decide) ?_
  refine lv_aload_n hx hb dX0_cutTurned_24 rfl (lv_at hl 0 rfl) ?_
  refine va_get (D := D) (ci := 0) (v := .ref a_this_high) (C := RX0) (T := TX0) (N := 4) hx hb hts (fun _ h => (List.mem_cons_of_mem _ (List.mem_append_right _ h))) hown hK hP 0 rfl rfl 1 (by decide) (hts (.fieldLink RX0 15 "FloatBoxes$Cutter" "high" "[I") (List.mem_cons_of_mem _ (List.mem_append_left _ (List.mem_of_getElem? (i := 0) rfl)))) (fun _ h9 => h9) rfl dX0_cutTurned_25 ?_
  refine lv_iload_n hx hb dX0_cutTurned_28 rfl (lv_at hl 2 rfl) ?_
  obtain ⟨h29, hf⟩ := o_in_go hf
  refine va_iald hx hb hK hP 1 0 rfl rfl h29 dX0_cutTurned_29 ?_
  refine lv_isub hx hb dX0_cutTurned_30 ?_
  refine lv_iconst (v := (-1)) hx hb dX0_cutTurned_31 (by decide) ?_
  refine lv_aload_n hx hb dX0_cutTurned_32 rfl (lv_at hl 0 rfl) ?_
  refine va_get (D := D) (ci := 0) (v := .ref a_this_low) (C := RX0) (T := TX0) (N := 4) hx hb hts (fun _ h => (List.mem_cons_of_mem _ (List.mem_append_right _ h))) hown hK hP 0 rfl rfl 0 (by decide) (hts (.fieldLink RX0 9 "FloatBoxes$Cutter" "low" "[I") (List.mem_cons_of_mem _ (List.mem_append_left _ (List.mem_of_getElem? (i := 1) rfl)))) (fun _ h9 => h9) rfl dX0_cutTurned_33 ?_
  refine lv_iload_n hx hb dX0_cutTurned_36 rfl (lv_at hl 2 rfl) ?_
  obtain ⟨h37, hf⟩ := o_in_go hf
  refine va_iald hx hb hK hP 2 0 rfl rfl h37 dX0_cutTurned_37 ?_
  refine lv_isub hx hb dX0_cutTurned_38 ?_
  obtain ⟨v_cut_39, v_empty_39, v_low_39, v_high_39, hg39, hf⟩ := o_b4_go hf
  refine g_callVv (wn := (ww_X0_cutTurned cI cM a_this a_this_low a_this_high v_cut_39 v_empty_39 v_high_39 v_low_39)) (rest := []) ⟨hx, hb, hml, hown, hts⟩ (c_X0_leave l D cI cM a_this a_this_low a_this_high H.size v_cut_18 v_empty_18 v_low_18 v_high_18 hg39) (cwV 3 hts gX0_cutTurned_X0_leave rfl rfl rfl (by decide +kernel) ⟨Nat.le_of_ble_eq_true rfl, Nat.le_of_ble_eq_true rfl⟩) hK hP hD hS hA [0, 2, 1] [] [0, 2, 1] rfl rfl rfl rfl rfl rfl (by decide) rfl rfl rfl hl.1 rfl (Nat.le_of_ble_eq_true rfl) dX0_cutTurned_39 (fun H locs hP hD hS => ?_)
  obtain ⟨q0, y0⟩ := o_rp hf
  obtain ⟨q1, y1⟩ := o_rp y0
  obtain ⟨q2, y2⟩ := o_rp y1
  have q3 := Option.some.inj y2
  subst q0 q1 q2 q3
  exact g_vret hx hb hr hlocks hP hD hK hS dX0_cutTurned_42
set_option maxHeartbeats 4000000 in
set_option maxRecDepth 100000 in
theorem c_X0_cutTurned (l : Launch) (D : va_G) (cI cM : ClassId) (a_this a_this_low a_this_high : Nat) (sz : Nat) (v_cut : Int32) (v_empty : Int32) (v_high : Nat → Int32) (v_low : Nat → Int32) {x1 : Int32} {x2 : Int32} {o_cut : Int32} {o_empty : Int32} {o_high : Nat → Int32} {o_low : Nat → Int32} (hf : f_X0_cutTurned v_cut v_empty v_high v_low x1 x2 = some (o_cut, o_empty, o_high, o_low)) : Met l yX0_cutTurned wsX0_cutTurned rm_X0_cutTurned (g_Pc D (g_tys cI cM) (ww_X0_cutTurned cI cM a_this a_this_low a_this_high v_cut v_empty v_high v_low) sz [.ref a_this, .int x1, .int x2]) (g_QV D (g_tys cI cM) (va_A (ww_X0_cutTurned cI cM a_this a_this_low a_this_high v_cut v_empty v_high v_low) sz) (ww_X0_cutTurned cI cM a_this a_this_low a_this_high o_cut o_empty o_high o_low)) 0 0 (va_A (ww_X0_cutTurned cI cM a_this a_this_low a_this_high v_cut v_empty v_high v_low) sz) := by
  refine g_met (cc := cX0_cutTurned) (maxL := 3) (ret := none) (Qc := fun D A => g_QV D (g_tys cI cM) A (ww_X0_cutTurned cI cM a_this a_this_low a_this_high o_cut o_empty o_high o_low)) (by decide) rfl ?_
  intro p e s m below meth c A C0 hA hK hP hD
  have hl := lv_entry ([.ref a_this, .int x1, .int x2]) (n := 3) (Nat.le_of_ble_eq_true rfl)
  rw [lg_entry_eq]
  generalize (lg_sl ([.ref a_this, .int x1, .int x2]) ++ List.replicate (3 - (lg_sl ([.ref a_this, .int x1, .int x2])).length) Slot.unset).toArray = ls at hl ⊢
  have hl : lv_has ls 3 [(0, .ref a_this), (1, .int x1), (2, .int x2)] := hl
  exact w_X0_cutTurned_B0 C0 hA hK v_cut v_empty v_high v_low x1 x2 s.heap [] ls hf hP hD va_S.rf (lv_sub hl [0, 1, 2] rfl)
/-! FloatBoxes$Cutter.cutByRules(LFloatBoxes$Model;III)I -/
abbrev rm_X0_cutByRules : Room := { frames := 6, cells := 0, slots := 0, locals := 160 }
abbrev ww_X0_cutByRules (cI cM : ClassId) (a_this a_this_low a_this_high a_p1 a_p1_low a_p1_high a_p1_kind a_p1_x a_p1_y a_p1_z : Nat) (v_cut : Int32) (v_empty : Int32) (v_p1_unknowns : Int32) (v_p1_rules : Int32) (v_p1_x : Nat → Int32) (v_p1_y : Nat → Int32) (v_p1_z : Nat → Int32) (v_p1_kind : Nat → Int32) (v_low : Nat → Int32) (v_high : Nat → Int32) : va_W := [(a_this, .inr (0, [.ref a_this_low, .ref a_this_high, .int v_cut, .int v_empty])), (a_p1, .inr (2, [.int v_p1_unknowns, .int v_p1_rules, .ref a_p1_low, .ref a_p1_high, .ref a_p1_kind, .ref a_p1_x, .ref a_p1_y, .ref a_p1_z])), (a_p1_x, .inl (cI, 6, .inl v_p1_x)), (a_p1_y, .inl (cI, 6, .inl v_p1_y)), (a_p1_z, .inl (cI, 6, .inl v_p1_z)), (a_p1_kind, .inl (cI, 6, .inl v_p1_kind)), (a_this_low, .inl (cI, 6, .inl v_low)), (a_this_high, .inl (cI, 6, .inl v_high))]
def f_X0_cutByRules_B199 (N : Nat) (v_p1_x : Nat → Int32) (v_p1_y : Nat → Int32) (v_p1_z : Nat → Int32) (v_p1_kind : Nat → Int32) (k8 : Int32 → Int32 → (Nat → Int32) → (Nat → Int32) → Int32 → Int32 → Int32 → Int32 → Option (Int32 × Int32 × Int32 × (Nat → Int32) × (Nat → Int32))) (v_cut : Int32) (v_empty : Int32) (v_low : Nat → Int32) (v_high : Nat → Int32) (x2 : Int32) (x3 : Int32) (x4 : Int32) (x5 : Int32) : Option (Int32 × Int32 × Int32 × (Nat → Int32) × (Nat → Int32)) :=
  if v_empty = 0 then
    if v_cut = 0 then
      some (x5, v_cut, v_empty, v_low, v_high)
    else
      k8 v_cut v_empty v_low v_high x2 x3 x4 (x5 + 1)
  else
    some ((-2139095049), v_cut, v_empty, v_low, v_high)
set_option maxHeartbeats 4000000 in
set_option maxRecDepth 100000 in
theorem w_X0_cutByRules_B199 {p : Program} {l : Launch} {e : Env} {s : State} {m : MethodId} {args : Array Value} {below : List Frame} {meth : Method} {c : Code} {D : va_G} {cI cM : ClassId} {A : Nat → Prop} {a_this a_this_low a_this_high a_p1 a_p1_low a_p1_high a_p1_kind a_p1_x a_p1_y a_p1_z : Nat} {v_p1_unknowns : Int32} {v_p1_rules : Int32} {N : Nat} {v_p1_x : Nat → Int32} {v_p1_y : Nat → Int32} {v_p1_z : Nat → Int32} {v_p1_kind : Nat → Int32} {r : Int32} {o_cut : Int32} {o_empty : Int32} {o_low : Nat → Int32} {o_high : Nat → Int32} (C0 : g_cx cX0_cutByRules (some .int) 10 RX0 wsX0_cutByRules p s m args meth c) (hA : ∀ q, s.heap.size ≤ q → A q) (hK : va_K D vwCl (g_tys cI cM) s) (k8 : Int32 → Int32 → (Nat → Int32) → (Nat → Int32) → Int32 → Int32 → Int32 → Int32 → Option (Int32 × Int32 × Int32 × (Nat → Int32) × (Nat → Int32))) (hk8 : ∀ (v_cut : Int32) (v_empty : Int32) (v_low : Nat → Int32) (v_high : Nat → Int32) (x2 : Int32) (x3 : Int32) (x4 : Int32) (x5 : Int32) (H : Heap) (locs : List Loc) (ls : Array Slot), k8 v_cut v_empty v_low v_high x2 x3 x4 x5 = some (r, o_cut, o_empty, o_low, o_high) → va_P D vwCl (ww_X0_cutByRules cI cM a_this a_this_low a_this_high a_p1 a_p1_low a_p1_high a_p1_kind a_p1_x a_p1_y a_p1_z v_cut v_empty v_p1_unknowns v_p1_rules v_p1_x v_p1_y v_p1_z v_p1_kind v_low v_high) H → va_D A (ww_X0_cutByRules cI cM a_this a_this_low a_this_high a_p1 a_p1_low a_p1_high a_p1_kind a_p1_x a_p1_y a_p1_z v_cut v_empty v_p1_unknowns v_p1_rules v_p1_x v_p1_y v_p1_z v_p1_kind v_low v_high) → va_S A s.heap H locs → lv_has ls 10 [(0, .ref a_this), (1, .ref a_p1), (2, .int x2), (3, .int x3), (4, .int x4), (5, .int x5)] → W p l e rm_X0_cutByRules s m args below meth c H locs 0 0 (MQ below (g_QI D (g_tys cI cM) A (ww_X0_cutByRules cI cM a_this a_this_low a_this_high a_p1 a_p1_low a_p1_high a_p1_kind a_p1_x a_p1_y a_p1_z o_cut o_empty v_p1_unknowns v_p1_rules v_p1_x v_p1_y v_p1_z v_p1_kind o_low o_high) r) args s 0 0 A) (F0 m 8 ls [])) : ∀ (v_cut : Int32) (v_empty : Int32) (v_low : Nat → Int32) (v_high : Nat → Int32) (x2 : Int32) (x3 : Int32) (x4 : Int32) (x5 : Int32) (H : Heap) (locs : List Loc) (ls : Array Slot), f_X0_cutByRules_B199 N v_p1_x v_p1_y v_p1_z v_p1_kind k8 v_cut v_empty v_low v_high x2 x3 x4 x5 = some (r, o_cut, o_empty, o_low, o_high) → va_P D vwCl (ww_X0_cutByRules cI cM a_this a_this_low a_this_high a_p1 a_p1_low a_p1_high a_p1_kind a_p1_x a_p1_y a_p1_z v_cut v_empty v_p1_unknowns v_p1_rules v_p1_x v_p1_y v_p1_z v_p1_kind v_low v_high) H → va_D A (ww_X0_cutByRules cI cM a_this a_this_low a_this_high a_p1 a_p1_low a_p1_high a_p1_kind a_p1_x a_p1_y a_p1_z v_cut v_empty v_p1_unknowns v_p1_rules v_p1_x v_p1_y v_p1_z v_p1_kind v_low v_high) → va_S A s.heap H locs → lv_has ls 10 [(0, .ref a_this), (1, .ref a_p1), (2, .int x2), (3, .int x3), (4, .int x4), (5, .int x5)] → W p l e rm_X0_cutByRules s m args below meth c H locs 0 0 (MQ below (g_QI D (g_tys cI cM) A (ww_X0_cutByRules cI cM a_this a_this_low a_this_high a_p1 a_p1_low a_p1_high a_p1_kind a_p1_x a_p1_y a_p1_z o_cut o_empty v_p1_unknowns v_p1_rules v_p1_x v_p1_y v_p1_z v_p1_kind o_low o_high) r) args s 0 0 A) (F0 m 199 ls []) := by
  obtain ⟨hx, hb, hr, hml, hown, hts, hlocks⟩ := id C0
  intro v_cut v_empty v_low v_high x2 x3 x4 x5 H locs ls hf hP hD hS hl
  unfold f_X0_cutByRules_B199 at hf
  refine lv_aload_n hx hb dX0_cutByRules_199 rfl (lv_at hl 0 rfl) ?_
  refine va_get (D := D) (ci := 0) (v := .int v_empty) (C := RX0) (T := TX0) (N := 4) hx hb hts (fun _ h => (List.mem_cons_of_mem _ (List.mem_append_left _ (List.mem_append_right _ h)))) hown hK hP 0 rfl rfl 3 (by decide) (hts (.fieldLink RX0 24 "FloatBoxes$Cutter" "empty" "Z") (List.mem_cons_of_mem _ (List.mem_append_left _ (List.mem_append_left _ (List.mem_append_left _ (List.mem_of_getElem? (i := 0) rfl)))))) (fun _ h9 => h9) rfl dX0_cutByRules_200 ?_
  refine lv_if_eq (tgt := 209) hx hb dX0_cutByRules_203 (by decide) (fun c203 => ?_) (fun c203 => ?_)
  · replace hf := o_t c203 hf
    refine lv_aload_n hx hb dX0_cutByRules_209 rfl (lv_at hl 0 rfl) ?_
    refine va_get (D := D) (ci := 0) (v := .int v_cut) (C := RX0) (T := TX0) (N := 4) hx hb hts (fun _ h => (List.mem_cons_of_mem _ (List.mem_append_left _ (List.mem_append_right _ h)))) hown hK hP 0 rfl rfl 2 (by decide) (hts (.fieldLink RX0 28 "FloatBoxes$Cutter" "cut" "Z") (List.mem_cons_of_mem _ (List.mem_append_left _ (List.mem_append_left _ (List.mem_append_left _ (List.mem_of_getElem? (i := 1) rfl)))))) (fun _ h9 => h9) rfl dX0_cutByRules_210 ?_
    refine lv_if_ne (tgt := 219) hx hb dX0_cutByRules_213 (by decide) (fun c213 => ?_) (fun c213 => ?_)
    · replace hf := o_f c213 hf
      refine lv_iinc (v := x5 + 1) (lv' := [(5, .int (x5 + 1)), (0, .ref a_this), (1, .ref a_p1), (2, .int x2), (3, .int x3), (4, .int x4)]) hx hb dX0_cutByRules_219 hl (k := 5) rfl rfl (by decide) rfl (fun ls hl => ?_)
      refine lv_goto (tgt := 8) hx hb dX0_cutByRules_222 (by decide) ?_
      exact hk8 v_cut v_empty v_low v_high x2 x3 x4 (x5 + 1) H locs ls hf hP hD hS (lv_sub hl [1, 2, 3, 4, 5, 0] rfl)
    · replace hf := o_t c213 hf
      refine lv_iload hx hb dX0_cutByRules_216 (lv_at hl 5 rfl) ?_
      obtain ⟨q0, y0⟩ := o_rp hf
      obtain ⟨q1, y1⟩ := o_rp y0
      obtain ⟨q2, y2⟩ := o_rp y1
      obtain ⟨q3, y3⟩ := o_rp y2
      have q4 := Option.some.inj y3
      subst q0 q1 q2 q3 q4
      exact g_iret hx hb hr hlocks hP hD hK hS dX0_cutByRules_218
  · replace hf := o_f c203 hf
    refine lv_ldc (v := (-2139095049)) hx hb hown (hts (.constant RX0 68 (-2139095049)) (List.mem_cons_of_mem _ (List.mem_append_left _ (List.mem_append_left _ (List.mem_append_left _ (List.mem_of_getElem? (i := 6) rfl)))))) dX0_cutByRules_206 ?_
    obtain ⟨q0, y0⟩ := o_rp hf
    obtain ⟨q1, y1⟩ := o_rp y0
    obtain ⟨q2, y2⟩ := o_rp y1
    obtain ⟨q3, y3⟩ := o_rp y2
    have q4 := Option.some.inj y3
    subst q0 q1 q2 q3 q4
    exact g_iret hx hb hr hlocks hP hD hK hS dX0_cutByRules_208
def f_X0_cutByRules_B193 (N : Nat) (v_p1_x : Nat → Int32) (v_p1_y : Nat → Int32) (v_p1_z : Nat → Int32) (v_p1_kind : Nat → Int32) (k23 : Int32 → Int32 → (Nat → Int32) → (Nat → Int32) → Int32 → Int32 → Int32 → Int32 → Int32 → Option (Int32 × Int32 × Int32 × (Nat → Int32) × (Nat → Int32))) (v_cut : Int32) (v_empty : Int32) (v_low : Nat → Int32) (v_high : Nat → Int32) (x2 : Int32) (x3 : Int32) (x4 : Int32) (x5 : Int32) (x6 : Int32) : Option (Int32 × Int32 × Int32 × (Nat → Int32) × (Nat → Int32)) :=
  k23 v_cut v_empty v_low v_high x2 x3 x4 x5 (x6 + 1)
set_option maxHeartbeats 4000000 in
set_option maxRecDepth 100000 in
theorem w_X0_cutByRules_B193 {p : Program} {l : Launch} {e : Env} {s : State} {m : MethodId} {args : Array Value} {below : List Frame} {meth : Method} {c : Code} {D : va_G} {cI cM : ClassId} {A : Nat → Prop} {a_this a_this_low a_this_high a_p1 a_p1_low a_p1_high a_p1_kind a_p1_x a_p1_y a_p1_z : Nat} {v_p1_unknowns : Int32} {v_p1_rules : Int32} {N : Nat} {v_p1_x : Nat → Int32} {v_p1_y : Nat → Int32} {v_p1_z : Nat → Int32} {v_p1_kind : Nat → Int32} {r : Int32} {o_cut : Int32} {o_empty : Int32} {o_low : Nat → Int32} {o_high : Nat → Int32} (C0 : g_cx cX0_cutByRules (some .int) 10 RX0 wsX0_cutByRules p s m args meth c) (hA : ∀ q, s.heap.size ≤ q → A q) (hK : va_K D vwCl (g_tys cI cM) s) (k23 : Int32 → Int32 → (Nat → Int32) → (Nat → Int32) → Int32 → Int32 → Int32 → Int32 → Int32 → Option (Int32 × Int32 × Int32 × (Nat → Int32) × (Nat → Int32))) (hk23 : ∀ (v_cut : Int32) (v_empty : Int32) (v_low : Nat → Int32) (v_high : Nat → Int32) (x2 : Int32) (x3 : Int32) (x4 : Int32) (x5 : Int32) (x6 : Int32) (H : Heap) (locs : List Loc) (ls : Array Slot), k23 v_cut v_empty v_low v_high x2 x3 x4 x5 x6 = some (r, o_cut, o_empty, o_low, o_high) → va_P D vwCl (ww_X0_cutByRules cI cM a_this a_this_low a_this_high a_p1 a_p1_low a_p1_high a_p1_kind a_p1_x a_p1_y a_p1_z v_cut v_empty v_p1_unknowns v_p1_rules v_p1_x v_p1_y v_p1_z v_p1_kind v_low v_high) H → va_D A (ww_X0_cutByRules cI cM a_this a_this_low a_this_high a_p1 a_p1_low a_p1_high a_p1_kind a_p1_x a_p1_y a_p1_z v_cut v_empty v_p1_unknowns v_p1_rules v_p1_x v_p1_y v_p1_z v_p1_kind v_low v_high) → va_S A s.heap H locs → lv_has ls 10 [(0, .ref a_this), (1, .ref a_p1), (2, .int x2), (3, .int x3), (4, .int x4), (5, .int x5), (6, .int x6)] → W p l e rm_X0_cutByRules s m args below meth c H locs 0 0 (MQ below (g_QI D (g_tys cI cM) A (ww_X0_cutByRules cI cM a_this a_this_low a_this_high a_p1 a_p1_low a_p1_high a_p1_kind a_p1_x a_p1_y a_p1_z o_cut o_empty v_p1_unknowns v_p1_rules v_p1_x v_p1_y v_p1_z v_p1_kind o_low o_high) r) args s 0 0 A) (F0 m 23 ls [])) : ∀ (v_cut : Int32) (v_empty : Int32) (v_low : Nat → Int32) (v_high : Nat → Int32) (x2 : Int32) (x3 : Int32) (x4 : Int32) (x5 : Int32) (x6 : Int32) (H : Heap) (locs : List Loc) (ls : Array Slot), f_X0_cutByRules_B193 N v_p1_x v_p1_y v_p1_z v_p1_kind k23 v_cut v_empty v_low v_high x2 x3 x4 x5 x6 = some (r, o_cut, o_empty, o_low, o_high) → va_P D vwCl (ww_X0_cutByRules cI cM a_this a_this_low a_this_high a_p1 a_p1_low a_p1_high a_p1_kind a_p1_x a_p1_y a_p1_z v_cut v_empty v_p1_unknowns v_p1_rules v_p1_x v_p1_y v_p1_z v_p1_kind v_low v_high) H → va_D A (ww_X0_cutByRules cI cM a_this a_this_low a_this_high a_p1 a_p1_low a_p1_high a_p1_kind a_p1_x a_p1_y a_p1_z v_cut v_empty v_p1_unknowns v_p1_rules v_p1_x v_p1_y v_p1_z v_p1_kind v_low v_high) → va_S A s.heap H locs → lv_has ls 10 [(0, .ref a_this), (1, .ref a_p1), (2, .int x2), (3, .int x3), (4, .int x4), (5, .int x5), (6, .int x6)] → W p l e rm_X0_cutByRules s m args below meth c H locs 0 0 (MQ below (g_QI D (g_tys cI cM) A (ww_X0_cutByRules cI cM a_this a_this_low a_this_high a_p1 a_p1_low a_p1_high a_p1_kind a_p1_x a_p1_y a_p1_z o_cut o_empty v_p1_unknowns v_p1_rules v_p1_x v_p1_y v_p1_z v_p1_kind o_low o_high) r) args s 0 0 A) (F0 m 193 ls []) := by
  obtain ⟨hx, hb, hr, hml, hown, hts, hlocks⟩ := id C0
  intro v_cut v_empty v_low v_high x2 x3 x4 x5 x6 H locs ls hf hP hD hS hl
  unfold f_X0_cutByRules_B193 at hf
  refine lv_iinc (v := x6 + 1) (lv' := [(6, .int (x6 + 1)), (0, .ref a_this), (1, .ref a_p1), (2, .int x2), (3, .int x3), (4, .int x4), (5, .int x5)]) hx hb dX0_cutByRules_193 hl (k := 6) rfl rfl (by decide) rfl (fun ls hl => ?_)
  refine lv_goto (tgt := 23) hx hb dX0_cutByRules_196 (by decide) ?_
  exact hk23 v_cut v_empty v_low v_high x2 x3 x4 x5 (x6 + 1) H locs ls hf hP hD hS (lv_sub hl [1, 2, 3, 4, 5, 6, 0] rfl)
def f_X0_cutByRules_C23 (N : Nat) (v_p1_x : Nat → Int32) (v_p1_y : Nat → Int32) (v_p1_z : Nat → Int32) (v_p1_kind : Nat → Int32) (k8 : Int32 → Int32 → (Nat → Int32) → (Nat → Int32) → Int32 → Int32 → Int32 → Int32 → Option (Int32 × Int32 × Int32 × (Nat → Int32) × (Nat → Int32))) (k23 : Int32 → Int32 → (Nat → Int32) → (Nat → Int32) → Int32 → Int32 → Int32 → Int32 → Int32 → Option (Int32 × Int32 × Int32 × (Nat → Int32) × (Nat → Int32))) (v_cut : Int32) (v_empty : Int32) (v_low : Nat → Int32) (v_high : Nat → Int32) (x2 : Int32) (x3 : Int32) (x4 : Int32) (x5 : Int32) (x6 : Int32) : Option (Int32 × Int32 × Int32 × (Nat → Int32) × (Nat → Int32)) :=
  if x3 ≤ x6 then
    f_X0_cutByRules_B199 N v_p1_x v_p1_y v_p1_z v_p1_kind k8 v_cut v_empty v_low v_high x2 x3 x4 x5
  else
    if v_empty = 0 then
      o_in x6 6 (
      o_nm (v_p1_x x6.toNatClampNeg) (fun (t43 : Int32) =>
      o_in x6 6 (
      o_nm (v_p1_y x6.toNatClampNeg) (fun (t52 : Int32) =>
      o_in x6 6 (
      o_nm (v_p1_z x6.toNatClampNeg) (fun (t61 : Int32) =>
      o_in x6 6 (
      if (v_p1_kind x6.toNatClampNeg) = 0 then
        o_b4 (f_X0_cutSum N v_cut v_empty v_low v_high t43 t52 t61) (fun (v_cut_111 : Int32) (v_empty_111 : Int32) (v_low_111 : Nat → Int32) (v_high_111 : Nat → Int32) =>
        f_X0_cutByRules_B193 N v_p1_x v_p1_y v_p1_z v_p1_kind k23 v_cut_111 v_empty_111 v_low_111 v_high_111 x2 x3 x4 x5 x6)
      else
      if (v_p1_kind x6.toNatClampNeg) = 1 then
        o_b4 (f_X0_cutProduct v_cut v_empty v_low v_high t43 t52 t61) (fun (v_cut_124 : Int32) (v_empty_124 : Int32) (v_low_124 : Nat → Int32) (v_high_124 : Nat → Int32) =>
        o_b4 (f_X0_cutFactor N v_cut_124 v_empty_124 v_high_124 v_low_124 t43 t52 t61) (fun (v_cut_134 : Int32) (v_empty_134 : Int32) (v_high_134 : Nat → Int32) (v_low_134 : Nat → Int32) =>
        o_b4 (f_X0_cutFactor N v_cut_134 v_empty_134 v_high_134 v_low_134 t52 t43 t61) (fun (v_cut_144 : Int32) (v_empty_144 : Int32) (v_high_144 : Nat → Int32) (v_low_144 : Nat → Int32) =>
        f_X0_cutByRules_B193 N v_p1_x v_p1_y v_p1_z v_p1_kind k23 v_cut_144 v_empty_144 v_low_144 v_high_144 x2 x3 x4 x5 x6)))
      else
      if (v_p1_kind x6.toNatClampNeg) = 2 then
        o_b4 (f_X0_cutMost v_cut v_empty v_low v_high t43 t52 t61) (fun (v_cut_157 : Int32) (v_empty_157 : Int32) (v_low_157 : Nat → Int32) (v_high_157 : Nat → Int32) =>
        f_X0_cutByRules_B193 N v_p1_x v_p1_y v_p1_z v_p1_kind k23 v_cut_157 v_empty_157 v_low_157 v_high_157 x2 x3 x4 x5 x6)
      else
      if (v_p1_kind x6.toNatClampNeg) = 3 then
        o_b4 (f_X0_cutLess v_cut v_empty v_low v_high t43 t52) (fun (v_cut_168 : Int32) (v_empty_168 : Int32) (v_low_168 : Nat → Int32) (v_high_168 : Nat → Int32) =>
        f_X0_cutByRules_B193 N v_p1_x v_p1_y v_p1_z v_p1_kind k23 v_cut_168 v_empty_168 v_low_168 v_high_168 x2 x3 x4 x5 x6)
      else
      if (v_p1_kind x6.toNatClampNeg) = 4 then
        o_b4 (f_X0_cutSame v_cut v_empty v_low v_high t43 t52) (fun (v_cut_179 : Int32) (v_empty_179 : Int32) (v_low_179 : Nat → Int32) (v_high_179 : Nat → Int32) =>
        f_X0_cutByRules_B193 N v_p1_x v_p1_y v_p1_z v_p1_kind k23 v_cut_179 v_empty_179 v_low_179 v_high_179 x2 x3 x4 x5 x6)
      else
      o_b4 (f_X0_cutTurned v_cut v_empty v_high v_low t43 t52) (fun (v_cut_190 : Int32) (v_empty_190 : Int32) (v_high_190 : Nat → Int32) (v_low_190 : Nat → Int32) =>
      f_X0_cutByRules_B193 N v_p1_x v_p1_y v_p1_z v_p1_kind k23 v_cut_190 v_empty_190 v_low_190 v_high_190 x2 x3 x4 x5 x6))))))))
    else
      f_X0_cutByRules_B199 N v_p1_x v_p1_y v_p1_z v_p1_kind k8 v_cut v_empty v_low v_high x2 x3 x4 x5
def f_X0_cutByRules_L23 (N : Nat) (v_p1_x : Nat → Int32) (v_p1_y : Nat → Int32) (v_p1_z : Nat → Int32) (v_p1_kind : Nat → Int32) (k8 : Int32 → Int32 → (Nat → Int32) → (Nat → Int32) → Int32 → Int32 → Int32 → Int32 → Option (Int32 × Int32 × Int32 × (Nat → Int32) × (Nat → Int32))) : Nat → Int32 → Int32 → (Nat → Int32) → (Nat → Int32) → Int32 → Int32 → Int32 → Int32 → Int32 → Option (Int32 × Int32 × Int32 × (Nat → Int32) × (Nat → Int32))
  | 0 => fun _ _ _ _ _ _ _ _ _ => none
  | n + 1 => f_X0_cutByRules_C23 N v_p1_x v_p1_y v_p1_z v_p1_kind k8 (f_X0_cutByRules_L23 N v_p1_x v_p1_y v_p1_z v_p1_kind k8 n)
set_option maxHeartbeats 4000000 in
set_option maxRecDepth 100000 in
theorem w_X0_cutByRules_C23 {p : Program} {l : Launch} {e : Env} {s : State} {m : MethodId} {args : Array Value} {below : List Frame} {meth : Method} {c : Code} {D : va_G} {cI cM : ClassId} {A : Nat → Prop} {a_this a_this_low a_this_high a_p1 a_p1_low a_p1_high a_p1_kind a_p1_x a_p1_y a_p1_z : Nat} {v_p1_unknowns : Int32} {v_p1_rules : Int32} {N : Nat} {v_p1_x : Nat → Int32} {v_p1_y : Nat → Int32} {v_p1_z : Nat → Int32} {v_p1_kind : Nat → Int32} {r : Int32} {o_cut : Int32} {o_empty : Int32} {o_low : Nat → Int32} {o_high : Nat → Int32} (C0 : g_cx cX0_cutByRules (some .int) 10 RX0 wsX0_cutByRules p s m args meth c) (hA : ∀ q, s.heap.size ≤ q → A q) (hK : va_K D vwCl (g_tys cI cM) s) (k8 : Int32 → Int32 → (Nat → Int32) → (Nat → Int32) → Int32 → Int32 → Int32 → Int32 → Option (Int32 × Int32 × Int32 × (Nat → Int32) × (Nat → Int32))) (hk8 : ∀ (v_cut : Int32) (v_empty : Int32) (v_low : Nat → Int32) (v_high : Nat → Int32) (x2 : Int32) (x3 : Int32) (x4 : Int32) (x5 : Int32) (H : Heap) (locs : List Loc) (ls : Array Slot), k8 v_cut v_empty v_low v_high x2 x3 x4 x5 = some (r, o_cut, o_empty, o_low, o_high) → va_P D vwCl (ww_X0_cutByRules cI cM a_this a_this_low a_this_high a_p1 a_p1_low a_p1_high a_p1_kind a_p1_x a_p1_y a_p1_z v_cut v_empty v_p1_unknowns v_p1_rules v_p1_x v_p1_y v_p1_z v_p1_kind v_low v_high) H → va_D A (ww_X0_cutByRules cI cM a_this a_this_low a_this_high a_p1 a_p1_low a_p1_high a_p1_kind a_p1_x a_p1_y a_p1_z v_cut v_empty v_p1_unknowns v_p1_rules v_p1_x v_p1_y v_p1_z v_p1_kind v_low v_high) → va_S A s.heap H locs → lv_has ls 10 [(0, .ref a_this), (1, .ref a_p1), (2, .int x2), (3, .int x3), (4, .int x4), (5, .int x5)] → W p l e rm_X0_cutByRules s m args below meth c H locs 0 0 (MQ below (g_QI D (g_tys cI cM) A (ww_X0_cutByRules cI cM a_this a_this_low a_this_high a_p1 a_p1_low a_p1_high a_p1_kind a_p1_x a_p1_y a_p1_z o_cut o_empty v_p1_unknowns v_p1_rules v_p1_x v_p1_y v_p1_z v_p1_kind o_low o_high) r) args s 0 0 A) (F0 m 8 ls [])) (k23 : Int32 → Int32 → (Nat → Int32) → (Nat → Int32) → Int32 → Int32 → Int32 → Int32 → Int32 → Option (Int32 × Int32 × Int32 × (Nat → Int32) × (Nat → Int32))) (hk23 : ∀ (v_cut : Int32) (v_empty : Int32) (v_low : Nat → Int32) (v_high : Nat → Int32) (x2 : Int32) (x3 : Int32) (x4 : Int32) (x5 : Int32) (x6 : Int32) (H : Heap) (locs : List Loc) (ls : Array Slot), k23 v_cut v_empty v_low v_high x2 x3 x4 x5 x6 = some (r, o_cut, o_empty, o_low, o_high) → va_P D vwCl (ww_X0_cutByRules cI cM a_this a_this_low a_this_high a_p1 a_p1_low a_p1_high a_p1_kind a_p1_x a_p1_y a_p1_z v_cut v_empty v_p1_unknowns v_p1_rules v_p1_x v_p1_y v_p1_z v_p1_kind v_low v_high) H → va_D A (ww_X0_cutByRules cI cM a_this a_this_low a_this_high a_p1 a_p1_low a_p1_high a_p1_kind a_p1_x a_p1_y a_p1_z v_cut v_empty v_p1_unknowns v_p1_rules v_p1_x v_p1_y v_p1_z v_p1_kind v_low v_high) → va_S A s.heap H locs → lv_has ls 10 [(0, .ref a_this), (1, .ref a_p1), (2, .int x2), (3, .int x3), (4, .int x4), (5, .int x5), (6, .int x6)] → W p l e rm_X0_cutByRules s m args below meth c H locs 0 0 (MQ below (g_QI D (g_tys cI cM) A (ww_X0_cutByRules cI cM a_this a_this_low a_this_high a_p1 a_p1_low a_p1_high a_p1_kind a_p1_x a_p1_y a_p1_z o_cut o_empty v_p1_unknowns v_p1_rules v_p1_x v_p1_y v_p1_z v_p1_kind o_low o_high) r) args s 0 0 A) (F0 m 23 ls [])) : ∀ (v_cut : Int32) (v_empty : Int32) (v_low : Nat → Int32) (v_high : Nat → Int32) (x2 : Int32) (x3 : Int32) (x4 : Int32) (x5 : Int32) (x6 : Int32) (H : Heap) (locs : List Loc) (ls : Array Slot), f_X0_cutByRules_C23 N v_p1_x v_p1_y v_p1_z v_p1_kind k8 k23 v_cut v_empty v_low v_high x2 x3 x4 x5 x6 = some (r, o_cut, o_empty, o_low, o_high) → va_P D vwCl (ww_X0_cutByRules cI cM a_this a_this_low a_this_high a_p1 a_p1_low a_p1_high a_p1_kind a_p1_x a_p1_y a_p1_z v_cut v_empty v_p1_unknowns v_p1_rules v_p1_x v_p1_y v_p1_z v_p1_kind v_low v_high) H → va_D A (ww_X0_cutByRules cI cM a_this a_this_low a_this_high a_p1 a_p1_low a_p1_high a_p1_kind a_p1_x a_p1_y a_p1_z v_cut v_empty v_p1_unknowns v_p1_rules v_p1_x v_p1_y v_p1_z v_p1_kind v_low v_high) → va_S A s.heap H locs → lv_has ls 10 [(0, .ref a_this), (1, .ref a_p1), (2, .int x2), (3, .int x3), (4, .int x4), (5, .int x5), (6, .int x6)] → W p l e rm_X0_cutByRules s m args below meth c H locs 0 0 (MQ below (g_QI D (g_tys cI cM) A (ww_X0_cutByRules cI cM a_this a_this_low a_this_high a_p1 a_p1_low a_p1_high a_p1_kind a_p1_x a_p1_y a_p1_z o_cut o_empty v_p1_unknowns v_p1_rules v_p1_x v_p1_y v_p1_z v_p1_kind o_low o_high) r) args s 0 0 A) (F0 m 23 ls []) := by
  obtain ⟨hx, hb, hr, hml, hown, hts, hlocks⟩ := id C0
  intro v_cut v_empty v_low v_high x2 x3 x4 x5 x6 H locs ls hf hP hD hS hl
  unfold f_X0_cutByRules_C23 at hf
  refine lv_iload hx hb dX0_cutByRules_23 (lv_at hl 6 rfl) ?_
  refine lv_iload_n hx hb dX0_cutByRules_25 rfl (lv_at hl 3 rfl) ?_
  refine lv_icmp_ge (tgt := 199) hx hb dX0_cutByRules_26 (by decide) (fun c26 => ?_) (fun c26 => ?_)
  · replace hf := o_t c26 hf
    exact w_X0_cutByRules_B199 C0 hA hK k8 hk8 v_cut v_empty v_low v_high x2 x3 x4 x5 H locs ls hf hP hD hS (lv_sub hl [0, 1, 2, 3, 4, 5] rfl)
  · replace hf := o_f c26 hf
    refine lv_aload_n hx hb dX0_cutByRules_29 rfl (lv_at hl 0 rfl) ?_
    refine va_get (D := D) (ci := 0) (v := .int v_empty) (C := RX0) (T := TX0) (N := 4) hx hb hts (fun _ h => (List.mem_cons_of_mem _ (List.mem_append_left _ (List.mem_append_right _ h)))) hown hK hP 0 rfl rfl 3 (by decide) (hts (.fieldLink RX0 24 "FloatBoxes$Cutter" "empty" "Z") (List.mem_cons_of_mem _ (List.mem_append_left _ (List.mem_append_left _ (List.mem_append_left _ (List.mem_of_getElem? (i := 0) rfl)))))) (fun _ h9 => h9) rfl dX0_cutByRules_30 ?_
    refine lv_if_ne (tgt := 199) hx hb dX0_cutByRules_33 (by decide) (fun c33 => ?_) (fun c33 => ?_)
    · replace hf := o_f c33 hf
      exact w_X0_cutByRules_B199 C0 hA hK k8 hk8 v_cut v_empty v_low v_high x2 x3 x4 x5 H locs ls hf hP hD hS (lv_sub hl [0, 1, 2, 3, 4, 5] rfl)
    · replace hf := o_t c33 hf
      refine lv_aload_n hx hb dX0_cutByRules_36 rfl (lv_at hl 1 rfl) ?_
      refine va_get (D := D) (ci := 2) (v := .ref a_p1_x) (C := RX3) (T := TX3) (N := 8) hx hb hts (fun _ h => (List.mem_cons_of_mem _ (List.mem_append_right _ h))) hown hK hP 1 rfl rfl 5 (by decide) (hts (.fieldLink RX0 31 "FloatBoxes$Model" "x" "[I") (List.mem_cons_of_mem _ (List.mem_append_left _ (List.mem_append_left _ (List.mem_append_left _ (List.mem_of_getElem? (i := 2) rfl)))))) (fun _ h9 => h9) rfl dX0_cutByRules_37 ?_
      refine lv_iload hx hb dX0_cutByRules_40 (lv_at hl 6 rfl) ?_
      obtain ⟨h42, hf⟩ := o_in_go hf
      refine va_iald hx hb hK hP 2 0 rfl rfl h42 dX0_cutByRules_42 ?_
      refine lv_topi (fun t43 et43 => ?_)
      replace hf := o_nm_go et43 hf
      refine lv_istore (lv' := [(7, .int t43), (0, .ref a_this), (1, .ref a_p1), (2, .int x2), (3, .int x3), (4, .int x4), (5, .int x5), (6, .int x6)]) hx hb dX0_cutByRules_43 hl (by decide) rfl (fun ls hl => ?_)
      refine lv_aload_n hx hb dX0_cutByRules_45 rfl (lv_at hl 2 rfl) ?_
      refine va_get (D := D) (ci := 2) (v := .ref a_p1_y) (C := RX3) (T := TX3) (N := 8) hx hb hts (fun _ h => (List.mem_cons_of_mem _ (List.mem_append_right _ h))) hown hK hP 1 rfl rfl 6 (by decide) (hts (.fieldLink RX0 36 "FloatBoxes$Model" "y" "[I") (List.mem_cons_of_mem _ (List.mem_append_left _ (List.mem_append_left _ (List.mem_append_left _ (List.mem_of_getElem? (i := 3) rfl)))))) (fun _ h9 => h9) rfl dX0_cutByRules_46 ?_
      refine lv_iload hx hb dX0_cutByRules_49 (lv_at hl 7 rfl) ?_
      obtain ⟨h51, hf⟩ := o_in_go hf
      refine va_iald hx hb hK hP 3 0 rfl rfl h51 dX0_cutByRules_51 ?_
      refine lv_topi (fun t52 et52 => ?_)
      replace hf := o_nm_go et52 hf
      refine lv_istore (lv' := [(8, .int t52), (7, .int t43), (0, .ref a_this), (1, .ref a_p1), (2, .int x2), (3, .int x3), (4, .int x4), (5, .int x5), (6, .int x6)]) hx hb dX0_cutByRules_52 hl (by decide) rfl (fun ls hl => ?_)
      refine lv_aload_n hx hb dX0_cutByRules_54 rfl (lv_at hl 3 rfl) ?_
      refine va_get (D := D) (ci := 2) (v := .ref a_p1_z) (C := RX3) (T := TX3) (N := 8) hx hb hts (fun _ h => (List.mem_cons_of_mem _ (List.mem_append_right _ h))) hown hK hP 1 rfl rfl 7 (by decide) (hts (.fieldLink RX0 39 "FloatBoxes$Model" "z" "[I") (List.mem_cons_of_mem _ (List.mem_append_left _ (List.mem_append_left _ (List.mem_append_left _ (List.mem_of_getElem? (i := 4) rfl)))))) (fun _ h9 => h9) rfl dX0_cutByRules_55 ?_
      refine lv_iload hx hb dX0_cutByRules_58 (lv_at hl 8 rfl) ?_
      obtain ⟨h60, hf⟩ := o_in_go hf
      refine va_iald hx hb hK hP 4 0 rfl rfl h60 dX0_cutByRules_60 ?_
      refine lv_topi (fun t61 et61 => ?_)
      replace hf := o_nm_go et61 hf
      refine lv_istore (lv' := [(9, .int t61), (8, .int t52), (7, .int t43), (0, .ref a_this), (1, .ref a_p1), (2, .int x2), (3, .int x3), (4, .int x4), (5, .int x5), (6, .int x6)]) hx hb dX0_cutByRules_61 hl (by decide) rfl (fun ls hl => ?_)
      refine lv_aload_n hx hb dX0_cutByRules_63 rfl (lv_at hl 4 rfl) ?_
      refine va_get (D := D) (ci := 2) (v := .ref a_p1_kind) (C := RX3) (T := TX3) (N := 8) hx hb hts (fun _ h => (List.mem_cons_of_mem _ (List.mem_append_right _ h))) hown hK hP 1 rfl rfl 4 (by decide) (hts (.fieldLink RX0 42 "FloatBoxes$Model" "kind" "[I") (List.mem_cons_of_mem _ (List.mem_append_left _ (List.mem_append_left _ (List.mem_append_left _ (List.mem_of_getElem? (i := 5) rfl)))))) (fun _ h9 => h9) rfl dX0_cutByRules_64 ?_
      refine lv_iload hx hb dX0_cutByRules_67 (lv_at hl 9 rfl) ?_
      obtain ⟨h69, hf⟩ := o_in_go hf
      refine va_iald hx hb hK hP 5 0 rfl rfl h69 dX0_cutByRules_69 ?_
      by_cases c70_0 : (v_p1_kind x6.toNatClampNeg) = 0
      · replace hf := o_t c70_0 hf
        refine lv_tableIn (off := 34) (tgt := 104) hx hb dX0_cutByRules_70 (by rw [o_sw (a := 0) rfl c70_0]; decide) (by rw [o_sw (a := 0) rfl c70_0]; decide) (by rw [o_sw (a := 0) rfl c70_0]; rfl) (by decide) ?_
        refine lv_aload_n hx hb dX0_cutByRules_104 rfl (lv_at hl 3 rfl) ?_
        refine lv_iload hx hb dX0_cutByRules_105 (lv_at hl 2 rfl) ?_
        refine lv_iload hx hb dX0_cutByRules_107 (lv_at hl 1 rfl) ?_
        refine lv_iload hx hb dX0_cutByRules_109 (lv_at hl 0 rfl) ?_
        obtain ⟨v_cut_111, v_empty_111, v_low_111, v_high_111, hg111, hf⟩ := o_b4_go hf
        refine g_callVv (wn := (ww_X0_cutByRules cI cM a_this a_this_low a_this_high a_p1 a_p1_low a_p1_high a_p1_kind a_p1_x a_p1_y a_p1_z v_cut_111 v_empty_111 v_p1_unknowns v_p1_rules v_p1_x v_p1_y v_p1_z v_p1_kind v_low_111 v_high_111)) (rest := []) ⟨hx, hb, hml, hown, hts⟩ (c_X0_cutSum l D cI cM a_this a_this_low a_this_high H.size v_cut v_empty v_low v_high hg111) (cwV 3 hts gX0_cutByRules_X0_cutSum rfl rfl rfl (by decide +kernel) ⟨Nat.le_of_ble_eq_true rfl, Nat.le_of_ble_eq_true rfl⟩) hK hP hD hS hA [0, 6, 7] [1, 2, 3, 4, 5] [5, 0, 1, 2, 3, 4, 6, 7] rfl rfl rfl rfl rfl rfl (by decide) rfl rfl rfl hl.1 rfl (Nat.le_of_ble_eq_true rfl) dX0_cutByRules_111 (fun H locs hP hD hS => ?_)
        refine lv_goto (tgt := 193) hx hb dX0_cutByRules_114 (by decide) ?_
        exact w_X0_cutByRules_B193 C0 hA hK k23 hk23 v_cut_111 v_empty_111 v_low_111 v_high_111 x2 x3 x4 x5 x6 H locs ls hf hP hD hS (lv_sub hl [3, 4, 5, 6, 7, 8, 9] rfl)
      replace hf := o_f c70_0 hf
      by_cases c70_1 : (v_p1_kind x6.toNatClampNeg) = 1
      · replace hf := o_t c70_1 hf
        refine lv_tableIn (off := 47) (tgt := 117) hx hb dX0_cutByRules_70 (by rw [o_sw (a := 1) rfl c70_1]; decide) (by rw [o_sw (a := 1) rfl c70_1]; decide) (by rw [o_sw (a := 1) rfl c70_1]; rfl) (by decide) ?_
        refine lv_aload_n hx hb dX0_cutByRules_117 rfl (lv_at hl 3 rfl) ?_
        refine lv_iload hx hb dX0_cutByRules_118 (lv_at hl 2 rfl) ?_
        refine lv_iload hx hb dX0_cutByRules_120 (lv_at hl 1 rfl) ?_
        refine lv_iload hx hb dX0_cutByRules_122 (lv_at hl 0 rfl) ?_
        obtain ⟨v_cut_124, v_empty_124, v_low_124, v_high_124, hg124, hf⟩ := o_b4_go hf
        refine g_callVv (wn := (ww_X0_cutByRules cI cM a_this a_this_low a_this_high a_p1 a_p1_low a_p1_high a_p1_kind a_p1_x a_p1_y a_p1_z v_cut_124 v_empty_124 v_p1_unknowns v_p1_rules v_p1_x v_p1_y v_p1_z v_p1_kind v_low_124 v_high_124)) (rest := []) ⟨hx, hb, hml, hown, hts⟩ (c_X0_cutProduct l D cI cM a_this a_this_low a_this_high H.size v_cut v_empty v_low v_high hg124) (cwV 3 hts gX0_cutByRules_X0_cutProduct rfl rfl rfl (by decide +kernel) ⟨Nat.le_of_ble_eq_true rfl, Nat.le_of_ble_eq_true rfl⟩) hK hP hD hS hA [0, 6, 7] [1, 2, 3, 4, 5] [5, 0, 1, 2, 3, 4, 6, 7] rfl rfl rfl rfl rfl rfl (by decide) rfl rfl rfl hl.1 rfl (Nat.le_of_ble_eq_true rfl) dX0_cutByRules_124 (fun H locs hP hD hS => ?_)
        refine lv_aload_n hx hb dX0_cutByRules_127 rfl (lv_at hl 3 rfl) ?_
        refine lv_iload hx hb dX0_cutByRules_128 (lv_at hl 2 rfl) ?_
        refine lv_iload hx hb dX0_cutByRules_130 (lv_at hl 1 rfl) ?_
        refine lv_iload hx hb dX0_cutByRules_132 (lv_at hl 0 rfl) ?_
        obtain ⟨v_cut_134, v_empty_134, v_high_134, v_low_134, hg134, hf⟩ := o_b4_go hf
        refine g_callVv (wn := (ww_X0_cutByRules cI cM a_this a_this_low a_this_high a_p1 a_p1_low a_p1_high a_p1_kind a_p1_x a_p1_y a_p1_z v_cut_134 v_empty_134 v_p1_unknowns v_p1_rules v_p1_x v_p1_y v_p1_z v_p1_kind v_low_134 v_high_134)) (rest := []) ⟨hx, hb, hml, hown, hts⟩ (c_X0_cutFactor l D cI cM a_this a_this_low a_this_high H.size v_cut_124 v_empty_124 v_high_124 v_low_124 hg134) (cwV 3 hts gX0_cutByRules_X0_cutFactor rfl rfl rfl (by decide +kernel) ⟨Nat.le_of_ble_eq_true rfl, Nat.le_of_ble_eq_true rfl⟩) hK hP hD hS hA [0, 7, 6] [1, 2, 3, 4, 5] [5, 0, 1, 2, 3, 4, 7, 6] rfl rfl rfl rfl rfl rfl (by decide) rfl rfl rfl hl.1 rfl (Nat.le_of_ble_eq_true rfl) dX0_cutByRules_134 (fun H locs hP hD hS => ?_)
        refine lv_aload_n hx hb dX0_cutByRules_137 rfl (lv_at hl 3 rfl) ?_
        refine lv_iload hx hb dX0_cutByRules_138 (lv_at hl 1 rfl) ?_
        refine lv_iload hx hb dX0_cutByRules_140 (lv_at hl 2 rfl) ?_
        refine lv_iload hx hb dX0_cutByRules_142 (lv_at hl 0 rfl) ?_
        obtain ⟨v_cut_144, v_empty_144, v_high_144, v_low_144, hg144, hf⟩ := o_b4_go hf
        refine g_callVv (wn := (ww_X0_cutByRules cI cM a_this a_this_low a_this_high a_p1 a_p1_low a_p1_high a_p1_kind a_p1_x a_p1_y a_p1_z v_cut_144 v_empty_144 v_p1_unknowns v_p1_rules v_p1_x v_p1_y v_p1_z v_p1_kind v_low_144 v_high_144)) (rest := []) ⟨hx, hb, hml, hown, hts⟩ (c_X0_cutFactor l D cI cM a_this a_this_low a_this_high H.size v_cut_134 v_empty_134 v_high_134 v_low_134 hg144) (cwV 3 hts gX0_cutByRules_X0_cutFactor rfl rfl rfl (by decide +kernel) ⟨Nat.le_of_ble_eq_true rfl, Nat.le_of_ble_eq_true rfl⟩) hK hP hD hS hA [0, 7, 6] [1, 2, 3, 4, 5] [5, 0, 1, 2, 3, 4, 7, 6] rfl rfl rfl rfl rfl rfl (by decide) rfl rfl rfl hl.1 rfl (Nat.le_of_ble_eq_true rfl) dX0_cutByRules_144 (fun H locs hP hD hS => ?_)
        refine lv_goto (tgt := 193) hx hb dX0_cutByRules_147 (by decide) ?_
        exact w_X0_cutByRules_B193 C0 hA hK k23 hk23 v_cut_144 v_empty_144 v_low_144 v_high_144 x2 x3 x4 x5 x6 H locs ls hf hP hD hS (lv_sub hl [3, 4, 5, 6, 7, 8, 9] rfl)
      replace hf := o_f c70_1 hf
      by_cases c70_2 : (v_p1_kind x6.toNatClampNeg) = 2
      · replace hf := o_t c70_2 hf
        refine lv_tableIn (off := 80) (tgt := 150) hx hb dX0_cutByRules_70 (by rw [o_sw (a := 2) rfl c70_2]; decide) (by rw [o_sw (a := 2) rfl c70_2]; decide) (by rw [o_sw (a := 2) rfl c70_2]; rfl) (by decide) ?_
        refine lv_aload_n hx hb dX0_cutByRules_150 rfl (lv_at hl 3 rfl) ?_
        refine lv_iload hx hb dX0_cutByRules_151 (lv_at hl 2 rfl) ?_
        refine lv_iload hx hb dX0_cutByRules_153 (lv_at hl 1 rfl) ?_
        refine lv_iload hx hb dX0_cutByRules_155 (lv_at hl 0 rfl) ?_
        obtain ⟨v_cut_157, v_empty_157, v_low_157, v_high_157, hg157, hf⟩ := o_b4_go hf
        refine g_callVv (wn := (ww_X0_cutByRules cI cM a_this a_this_low a_this_high a_p1 a_p1_low a_p1_high a_p1_kind a_p1_x a_p1_y a_p1_z v_cut_157 v_empty_157 v_p1_unknowns v_p1_rules v_p1_x v_p1_y v_p1_z v_p1_kind v_low_157 v_high_157)) (rest := []) ⟨hx, hb, hml, hown, hts⟩ (c_X0_cutMost l D cI cM a_this a_this_low a_this_high H.size v_cut v_empty v_low v_high hg157) (cwV 3 hts gX0_cutByRules_X0_cutMost rfl rfl rfl (by decide +kernel) ⟨Nat.le_of_ble_eq_true rfl, Nat.le_of_ble_eq_true rfl⟩) hK hP hD hS hA [0, 6, 7] [1, 2, 3, 4, 5] [5, 0, 1, 2, 3, 4, 6, 7] rfl rfl rfl rfl rfl rfl (by decide) rfl rfl rfl hl.1 rfl (Nat.le_of_ble_eq_true rfl) dX0_cutByRules_157 (fun H locs hP hD hS => ?_)
        refine lv_goto (tgt := 193) hx hb dX0_cutByRules_160 (by decide) ?_
        exact w_X0_cutByRules_B193 C0 hA hK k23 hk23 v_cut_157 v_empty_157 v_low_157 v_high_157 x2 x3 x4 x5 x6 H locs ls hf hP hD hS (lv_sub hl [3, 4, 5, 6, 7, 8, 9] rfl)
      replace hf := o_f c70_2 hf
      by_cases c70_3 : (v_p1_kind x6.toNatClampNeg) = 3
      · replace hf := o_t c70_3 hf
        refine lv_tableIn (off := 93) (tgt := 163) hx hb dX0_cutByRules_70 (by rw [o_sw (a := 3) rfl c70_3]; decide) (by rw [o_sw (a := 3) rfl c70_3]; decide) (by rw [o_sw (a := 3) rfl c70_3]; rfl) (by decide) ?_
        refine lv_aload_n hx hb dX0_cutByRules_163 rfl (lv_at hl 3 rfl) ?_
        refine lv_iload hx hb dX0_cutByRules_164 (lv_at hl 2 rfl) ?_
        refine lv_iload hx hb dX0_cutByRules_166 (lv_at hl 1 rfl) ?_
        obtain ⟨v_cut_168, v_empty_168, v_low_168, v_high_168, hg168, hf⟩ := o_b4_go hf
        refine g_callVv (wn := (ww_X0_cutByRules cI cM a_this a_this_low a_this_high a_p1 a_p1_low a_p1_high a_p1_kind a_p1_x a_p1_y a_p1_z v_cut_168 v_empty_168 v_p1_unknowns v_p1_rules v_p1_x v_p1_y v_p1_z v_p1_kind v_low_168 v_high_168)) (rest := []) ⟨hx, hb, hml, hown, hts⟩ (c_X0_cutLess l D cI cM a_this a_this_low a_this_high H.size v_cut v_empty v_low v_high hg168) (cwV 2 hts gX0_cutByRules_X0_cutLess rfl rfl rfl (by decide +kernel) ⟨Nat.le_of_ble_eq_true rfl, Nat.le_of_ble_eq_true rfl⟩) hK hP hD hS hA [0, 6, 7] [1, 2, 3, 4, 5] [5, 0, 1, 2, 3, 4, 6, 7] rfl rfl rfl rfl rfl rfl (by decide) rfl rfl rfl hl.1 rfl (Nat.le_of_ble_eq_true rfl) dX0_cutByRules_168 (fun H locs hP hD hS => ?_)
        refine lv_goto (tgt := 193) hx hb dX0_cutByRules_171 (by decide) ?_
        exact w_X0_cutByRules_B193 C0 hA hK k23 hk23 v_cut_168 v_empty_168 v_low_168 v_high_168 x2 x3 x4 x5 x6 H locs ls hf hP hD hS (lv_sub hl [3, 4, 5, 6, 7, 8, 9] rfl)
      replace hf := o_f c70_3 hf
      by_cases c70_4 : (v_p1_kind x6.toNatClampNeg) = 4
      · replace hf := o_t c70_4 hf
        refine lv_tableIn (off := 104) (tgt := 174) hx hb dX0_cutByRules_70 (by rw [o_sw (a := 4) rfl c70_4]; decide) (by rw [o_sw (a := 4) rfl c70_4]; decide) (by rw [o_sw (a := 4) rfl c70_4]; rfl) (by decide) ?_
        refine lv_aload_n hx hb dX0_cutByRules_174 rfl (lv_at hl 3 rfl) ?_
        refine lv_iload hx hb dX0_cutByRules_175 (lv_at hl 2 rfl) ?_
        refine lv_iload hx hb dX0_cutByRules_177 (lv_at hl 1 rfl) ?_
        obtain ⟨v_cut_179, v_empty_179, v_low_179, v_high_179, hg179, hf⟩ := o_b4_go hf
        refine g_callVv (wn := (ww_X0_cutByRules cI cM a_this a_this_low a_this_high a_p1 a_p1_low a_p1_high a_p1_kind a_p1_x a_p1_y a_p1_z v_cut_179 v_empty_179 v_p1_unknowns v_p1_rules v_p1_x v_p1_y v_p1_z v_p1_kind v_low_179 v_high_179)) (rest := []) ⟨hx, hb, hml, hown, hts⟩ (c_X0_cutSame l D cI cM a_this a_this_low a_this_high H.size v_cut v_empty v_low v_high hg179) (cwV 2 hts gX0_cutByRules_X0_cutSame rfl rfl rfl (by decide +kernel) ⟨Nat.le_of_ble_eq_true rfl, Nat.le_of_ble_eq_true rfl⟩) hK hP hD hS hA [0, 6, 7] [1, 2, 3, 4, 5] [5, 0, 1, 2, 3, 4, 6, 7] rfl rfl rfl rfl rfl rfl (by decide) rfl rfl rfl hl.1 rfl (Nat.le_of_ble_eq_true rfl) dX0_cutByRules_179 (fun H locs hP hD hS => ?_)
        refine lv_goto (tgt := 193) hx hb dX0_cutByRules_182 (by decide) ?_
        exact w_X0_cutByRules_B193 C0 hA hK k23 hk23 v_cut_179 v_empty_179 v_low_179 v_high_179 x2 x3 x4 x5 x6 H locs ls hf hP hD hS (lv_sub hl [3, 4, 5, 6, 7, 8, 9] rfl)
      replace hf := o_f c70_4 hf
      refine lv_tableOut (tgt := 185) hx hb dX0_cutByRules_70 (by have n0 := lv_neT (a := 0) c70_0 rfl; have n1 := lv_neT (a := 1) c70_1 rfl; have n2 := lv_neT (a := 2) c70_2 rfl; have n3 := lv_neT (a := 3) c70_3 rfl; have n4 := lv_neT (a := 4) c70_4 rfl; omega) (by decide) ?_
      refine lv_aload_n hx hb dX0_cutByRules_185 rfl (lv_at hl 3 rfl) ?_
      refine lv_iload hx hb dX0_cutByRules_186 (lv_at hl 2 rfl) ?_
      refine lv_iload hx hb dX0_cutByRules_188 (lv_at hl 1 rfl) ?_
      obtain ⟨v_cut_190, v_empty_190, v_high_190, v_low_190, hg190, hf⟩ := o_b4_go hf
      refine g_callVv (wn := (ww_X0_cutByRules cI cM a_this a_this_low a_this_high a_p1 a_p1_low a_p1_high a_p1_kind a_p1_x a_p1_y a_p1_z v_cut_190 v_empty_190 v_p1_unknowns v_p1_rules v_p1_x v_p1_y v_p1_z v_p1_kind v_low_190 v_high_190)) (rest := []) ⟨hx, hb, hml, hown, hts⟩ (c_X0_cutTurned l D cI cM a_this a_this_low a_this_high H.size v_cut v_empty v_high v_low hg190) (cwV 2 hts gX0_cutByRules_X0_cutTurned rfl rfl rfl (by decide +kernel) ⟨Nat.le_of_ble_eq_true rfl, Nat.le_of_ble_eq_true rfl⟩) hK hP hD hS hA [0, 7, 6] [1, 2, 3, 4, 5] [5, 0, 1, 2, 3, 4, 7, 6] rfl rfl rfl rfl rfl rfl (by decide) rfl rfl rfl hl.1 rfl (Nat.le_of_ble_eq_true rfl) dX0_cutByRules_190 (fun H locs hP hD hS => ?_)
      exact w_X0_cutByRules_B193 C0 hA hK k23 hk23 v_cut_190 v_empty_190 v_low_190 v_high_190 x2 x3 x4 x5 x6 H locs ls hf hP hD hS (lv_sub hl [3, 4, 5, 6, 7, 8, 9] rfl)
set_option maxHeartbeats 4000000 in
set_option maxRecDepth 100000 in
theorem w_X0_cutByRules_L23 {p : Program} {l : Launch} {e : Env} {s : State} {m : MethodId} {args : Array Value} {below : List Frame} {meth : Method} {c : Code} {D : va_G} {cI cM : ClassId} {A : Nat → Prop} {a_this a_this_low a_this_high a_p1 a_p1_low a_p1_high a_p1_kind a_p1_x a_p1_y a_p1_z : Nat} {v_p1_unknowns : Int32} {v_p1_rules : Int32} {N : Nat} {v_p1_x : Nat → Int32} {v_p1_y : Nat → Int32} {v_p1_z : Nat → Int32} {v_p1_kind : Nat → Int32} {r : Int32} {o_cut : Int32} {o_empty : Int32} {o_low : Nat → Int32} {o_high : Nat → Int32} (C0 : g_cx cX0_cutByRules (some .int) 10 RX0 wsX0_cutByRules p s m args meth c) (hA : ∀ q, s.heap.size ≤ q → A q) (hK : va_K D vwCl (g_tys cI cM) s) (k8 : Int32 → Int32 → (Nat → Int32) → (Nat → Int32) → Int32 → Int32 → Int32 → Int32 → Option (Int32 × Int32 × Int32 × (Nat → Int32) × (Nat → Int32))) (hk8 : ∀ (v_cut : Int32) (v_empty : Int32) (v_low : Nat → Int32) (v_high : Nat → Int32) (x2 : Int32) (x3 : Int32) (x4 : Int32) (x5 : Int32) (H : Heap) (locs : List Loc) (ls : Array Slot), k8 v_cut v_empty v_low v_high x2 x3 x4 x5 = some (r, o_cut, o_empty, o_low, o_high) → va_P D vwCl (ww_X0_cutByRules cI cM a_this a_this_low a_this_high a_p1 a_p1_low a_p1_high a_p1_kind a_p1_x a_p1_y a_p1_z v_cut v_empty v_p1_unknowns v_p1_rules v_p1_x v_p1_y v_p1_z v_p1_kind v_low v_high) H → va_D A (ww_X0_cutByRules cI cM a_this a_this_low a_this_high a_p1 a_p1_low a_p1_high a_p1_kind a_p1_x a_p1_y a_p1_z v_cut v_empty v_p1_unknowns v_p1_rules v_p1_x v_p1_y v_p1_z v_p1_kind v_low v_high) → va_S A s.heap H locs → lv_has ls 10 [(0, .ref a_this), (1, .ref a_p1), (2, .int x2), (3, .int x3), (4, .int x4), (5, .int x5)] → W p l e rm_X0_cutByRules s m args below meth c H locs 0 0 (MQ below (g_QI D (g_tys cI cM) A (ww_X0_cutByRules cI cM a_this a_this_low a_this_high a_p1 a_p1_low a_p1_high a_p1_kind a_p1_x a_p1_y a_p1_z o_cut o_empty v_p1_unknowns v_p1_rules v_p1_x v_p1_y v_p1_z v_p1_kind o_low o_high) r) args s 0 0 A) (F0 m 8 ls [])) : ∀ n : Nat, ∀ (v_cut : Int32) (v_empty : Int32) (v_low : Nat → Int32) (v_high : Nat → Int32) (x2 : Int32) (x3 : Int32) (x4 : Int32) (x5 : Int32) (x6 : Int32) (H : Heap) (locs : List Loc) (ls : Array Slot), f_X0_cutByRules_L23 N v_p1_x v_p1_y v_p1_z v_p1_kind k8 n v_cut v_empty v_low v_high x2 x3 x4 x5 x6 = some (r, o_cut, o_empty, o_low, o_high) → va_P D vwCl (ww_X0_cutByRules cI cM a_this a_this_low a_this_high a_p1 a_p1_low a_p1_high a_p1_kind a_p1_x a_p1_y a_p1_z v_cut v_empty v_p1_unknowns v_p1_rules v_p1_x v_p1_y v_p1_z v_p1_kind v_low v_high) H → va_D A (ww_X0_cutByRules cI cM a_this a_this_low a_this_high a_p1 a_p1_low a_p1_high a_p1_kind a_p1_x a_p1_y a_p1_z v_cut v_empty v_p1_unknowns v_p1_rules v_p1_x v_p1_y v_p1_z v_p1_kind v_low v_high) → va_S A s.heap H locs → lv_has ls 10 [(0, .ref a_this), (1, .ref a_p1), (2, .int x2), (3, .int x3), (4, .int x4), (5, .int x5), (6, .int x6)] → W p l e rm_X0_cutByRules s m args below meth c H locs 0 0 (MQ below (g_QI D (g_tys cI cM) A (ww_X0_cutByRules cI cM a_this a_this_low a_this_high a_p1 a_p1_low a_p1_high a_p1_kind a_p1_x a_p1_y a_p1_z o_cut o_empty v_p1_unknowns v_p1_rules v_p1_x v_p1_y v_p1_z v_p1_kind o_low o_high) r) args s 0 0 A) (F0 m 23 ls []) := by
  intro n
  induction n with
  | zero =>
    intro v_cut v_empty v_low v_high x2 x3 x4 x5 x6 H locs ls hf
    exact absurd hf (fun h => nomatch h)
  | succ n ih =>
    intro v_cut v_empty v_low v_high x2 x3 x4 x5 x6 H locs ls hf
    exact w_X0_cutByRules_C23 C0 hA hK k8 hk8 _ ih v_cut v_empty v_low v_high x2 x3 x4 x5 x6 H locs ls hf
def f_X0_cutByRules_C8 (N : Nat) (v_p1_x : Nat → Int32) (v_p1_y : Nat → Int32) (v_p1_z : Nat → Int32) (v_p1_kind : Nat → Int32) (k8 : Int32 → Int32 → (Nat → Int32) → (Nat → Int32) → Int32 → Int32 → Int32 → Int32 → Option (Int32 × Int32 × Int32 × (Nat → Int32) × (Nat → Int32))) (v_cut : Int32) (v_empty : Int32) (v_low : Nat → Int32) (v_high : Nat → Int32) (x2 : Int32) (x3 : Int32) (x4 : Int32) (x5 : Int32) : Option (Int32 × Int32 × Int32 × (Nat → Int32) × (Nat → Int32)) :=
  if x4 < x5 then
    some (x4, v_cut, v_empty, v_low, v_high)
  else
    f_X0_cutByRules_L23 N v_p1_x v_p1_y v_p1_z v_p1_kind k8 N 0 v_empty v_low v_high x2 x3 x4 x5 x2
def f_X0_cutByRules_L8 (N : Nat) (v_p1_x : Nat → Int32) (v_p1_y : Nat → Int32) (v_p1_z : Nat → Int32) (v_p1_kind : Nat → Int32) : Nat → Int32 → Int32 → (Nat → Int32) → (Nat → Int32) → Int32 → Int32 → Int32 → Int32 → Option (Int32 × Int32 × Int32 × (Nat → Int32) × (Nat → Int32))
  | 0 => fun _ _ _ _ _ _ _ _ => none
  | n + 1 => f_X0_cutByRules_C8 N v_p1_x v_p1_y v_p1_z v_p1_kind (f_X0_cutByRules_L8 N v_p1_x v_p1_y v_p1_z v_p1_kind n)
set_option maxHeartbeats 4000000 in
set_option maxRecDepth 100000 in
theorem w_X0_cutByRules_C8 {p : Program} {l : Launch} {e : Env} {s : State} {m : MethodId} {args : Array Value} {below : List Frame} {meth : Method} {c : Code} {D : va_G} {cI cM : ClassId} {A : Nat → Prop} {a_this a_this_low a_this_high a_p1 a_p1_low a_p1_high a_p1_kind a_p1_x a_p1_y a_p1_z : Nat} {v_p1_unknowns : Int32} {v_p1_rules : Int32} {N : Nat} {v_p1_x : Nat → Int32} {v_p1_y : Nat → Int32} {v_p1_z : Nat → Int32} {v_p1_kind : Nat → Int32} {r : Int32} {o_cut : Int32} {o_empty : Int32} {o_low : Nat → Int32} {o_high : Nat → Int32} (C0 : g_cx cX0_cutByRules (some .int) 10 RX0 wsX0_cutByRules p s m args meth c) (hA : ∀ q, s.heap.size ≤ q → A q) (hK : va_K D vwCl (g_tys cI cM) s) (k8 : Int32 → Int32 → (Nat → Int32) → (Nat → Int32) → Int32 → Int32 → Int32 → Int32 → Option (Int32 × Int32 × Int32 × (Nat → Int32) × (Nat → Int32))) (hk8 : ∀ (v_cut : Int32) (v_empty : Int32) (v_low : Nat → Int32) (v_high : Nat → Int32) (x2 : Int32) (x3 : Int32) (x4 : Int32) (x5 : Int32) (H : Heap) (locs : List Loc) (ls : Array Slot), k8 v_cut v_empty v_low v_high x2 x3 x4 x5 = some (r, o_cut, o_empty, o_low, o_high) → va_P D vwCl (ww_X0_cutByRules cI cM a_this a_this_low a_this_high a_p1 a_p1_low a_p1_high a_p1_kind a_p1_x a_p1_y a_p1_z v_cut v_empty v_p1_unknowns v_p1_rules v_p1_x v_p1_y v_p1_z v_p1_kind v_low v_high) H → va_D A (ww_X0_cutByRules cI cM a_this a_this_low a_this_high a_p1 a_p1_low a_p1_high a_p1_kind a_p1_x a_p1_y a_p1_z v_cut v_empty v_p1_unknowns v_p1_rules v_p1_x v_p1_y v_p1_z v_p1_kind v_low v_high) → va_S A s.heap H locs → lv_has ls 10 [(0, .ref a_this), (1, .ref a_p1), (2, .int x2), (3, .int x3), (4, .int x4), (5, .int x5)] → W p l e rm_X0_cutByRules s m args below meth c H locs 0 0 (MQ below (g_QI D (g_tys cI cM) A (ww_X0_cutByRules cI cM a_this a_this_low a_this_high a_p1 a_p1_low a_p1_high a_p1_kind a_p1_x a_p1_y a_p1_z o_cut o_empty v_p1_unknowns v_p1_rules v_p1_x v_p1_y v_p1_z v_p1_kind o_low o_high) r) args s 0 0 A) (F0 m 8 ls [])) : ∀ (v_cut : Int32) (v_empty : Int32) (v_low : Nat → Int32) (v_high : Nat → Int32) (x2 : Int32) (x3 : Int32) (x4 : Int32) (x5 : Int32) (H : Heap) (locs : List Loc) (ls : Array Slot), f_X0_cutByRules_C8 N v_p1_x v_p1_y v_p1_z v_p1_kind k8 v_cut v_empty v_low v_high x2 x3 x4 x5 = some (r, o_cut, o_empty, o_low, o_high) → va_P D vwCl (ww_X0_cutByRules cI cM a_this a_this_low a_this_high a_p1 a_p1_low a_p1_high a_p1_kind a_p1_x a_p1_y a_p1_z v_cut v_empty v_p1_unknowns v_p1_rules v_p1_x v_p1_y v_p1_z v_p1_kind v_low v_high) H → va_D A (ww_X0_cutByRules cI cM a_this a_this_low a_this_high a_p1 a_p1_low a_p1_high a_p1_kind a_p1_x a_p1_y a_p1_z v_cut v_empty v_p1_unknowns v_p1_rules v_p1_x v_p1_y v_p1_z v_p1_kind v_low v_high) → va_S A s.heap H locs → lv_has ls 10 [(0, .ref a_this), (1, .ref a_p1), (2, .int x2), (3, .int x3), (4, .int x4), (5, .int x5)] → W p l e rm_X0_cutByRules s m args below meth c H locs 0 0 (MQ below (g_QI D (g_tys cI cM) A (ww_X0_cutByRules cI cM a_this a_this_low a_this_high a_p1 a_p1_low a_p1_high a_p1_kind a_p1_x a_p1_y a_p1_z o_cut o_empty v_p1_unknowns v_p1_rules v_p1_x v_p1_y v_p1_z v_p1_kind o_low o_high) r) args s 0 0 A) (F0 m 8 ls []) := by
  obtain ⟨hx, hb, hr, hml, hown, hts, hlocks⟩ := id C0
  intro v_cut v_empty v_low v_high x2 x3 x4 x5 H locs ls hf hP hD hS hl
  unfold f_X0_cutByRules_C8 at hf
  refine lv_iload hx hb dX0_cutByRules_8 (lv_at hl 5 rfl) ?_
  refine lv_iload hx hb dX0_cutByRules_10 (lv_at hl 4 rfl) ?_
  refine lv_icmp_gt (tgt := 225) hx hb dX0_cutByRules_12 (by decide) (fun c12 => ?_) (fun c12 => ?_)
  · replace hf := o_t c12 hf
    refine lv_iload hx hb dX0_cutByRules_225 (lv_at hl 4 rfl) ?_
    obtain ⟨q0, y0⟩ := o_rp hf
    obtain ⟨q1, y1⟩ := o_rp y0
    obtain ⟨q2, y2⟩ := o_rp y1
    obtain ⟨q3, y3⟩ := o_rp y2
    have q4 := Option.some.inj y3
    subst q0 q1 q2 q3 q4
    exact g_iret hx hb hr hlocks hP hD hK hS dX0_cutByRules_227
  · replace hf := o_f c12 hf
    refine lv_aload_n hx hb dX0_cutByRules_15 rfl (lv_at hl 0 rfl) ?_
    refine lv_iconst (v := 0) hx hb dX0_cutByRules_16 (by decide) ?_
    refine va_put (D := D) (ci := 0) (v := .int 0) (ty := .boolean) (C := RX0) (T := TX0) (N := 4) hx hb hts (fun _ h => (List.mem_cons_of_mem _ (List.mem_append_left _ (List.mem_append_right _ h)))) tyX0 tyX0_ok nmX0 hown hK hP hD hS 0 rfl rfl 2 (by decide) (hts (.fieldLink RX0 28 "FloatBoxes$Cutter" "cut" "Z") (List.mem_cons_of_mem _ (List.mem_append_left _ (List.mem_append_left _ (List.mem_append_left _ (List.mem_of_getElem? (i := 1) rfl)))))) (fun _ h9 => h9) rfl (by decide +kernel) (by decide) (by decide) (Nat.le_of_ble_eq_true rfl) dX0_cutByRules_17 (fun H locs hP hD hS => ?_)
    replace hP : va_P D vwCl (ww_X0_cutByRules cI cM a_this a_this_low a_this_high a_p1 a_p1_low a_p1_high a_p1_kind a_p1_x a_p1_y a_p1_z 0 v_empty v_p1_unknowns v_p1_rules v_p1_x v_p1_y v_p1_z v_p1_kind v_low v_high) H := hP
    replace hD : va_D A (ww_X0_cutByRules cI cM a_this a_this_low a_this_high a_p1 a_p1_low a_p1_high a_p1_kind a_p1_x a_p1_y a_p1_z 0 v_empty v_p1_unknowns v_p1_rules v_p1_x v_p1_y v_p1_z v_p1_kind v_low v_high) := hD
    refine lv_iload_n hx hb dX0_cutByRules_20 rfl (lv_at hl 2 rfl) ?_
    refine lv_istore (lv' := [(6, .int x2), (0, .ref a_this), (1, .ref a_p1), (2, .int x2), (3, .int x3), (4, .int x4), (5, .int x5)]) hx hb dX0_cutByRules_21 hl (by decide) rfl (fun ls hl => ?_)
    exact w_X0_cutByRules_L23 C0 hA hK k8 hk8 N 0 v_empty v_low v_high x2 x3 x4 x5 x2 H locs ls hf hP hD hS (lv_sub hl [1, 2, 3, 4, 5, 6, 0] rfl)
set_option maxHeartbeats 4000000 in
set_option maxRecDepth 100000 in
theorem w_X0_cutByRules_L8 {p : Program} {l : Launch} {e : Env} {s : State} {m : MethodId} {args : Array Value} {below : List Frame} {meth : Method} {c : Code} {D : va_G} {cI cM : ClassId} {A : Nat → Prop} {a_this a_this_low a_this_high a_p1 a_p1_low a_p1_high a_p1_kind a_p1_x a_p1_y a_p1_z : Nat} {v_p1_unknowns : Int32} {v_p1_rules : Int32} {N : Nat} {v_p1_x : Nat → Int32} {v_p1_y : Nat → Int32} {v_p1_z : Nat → Int32} {v_p1_kind : Nat → Int32} {r : Int32} {o_cut : Int32} {o_empty : Int32} {o_low : Nat → Int32} {o_high : Nat → Int32} (C0 : g_cx cX0_cutByRules (some .int) 10 RX0 wsX0_cutByRules p s m args meth c) (hA : ∀ q, s.heap.size ≤ q → A q) (hK : va_K D vwCl (g_tys cI cM) s) : ∀ n : Nat, ∀ (v_cut : Int32) (v_empty : Int32) (v_low : Nat → Int32) (v_high : Nat → Int32) (x2 : Int32) (x3 : Int32) (x4 : Int32) (x5 : Int32) (H : Heap) (locs : List Loc) (ls : Array Slot), f_X0_cutByRules_L8 N v_p1_x v_p1_y v_p1_z v_p1_kind n v_cut v_empty v_low v_high x2 x3 x4 x5 = some (r, o_cut, o_empty, o_low, o_high) → va_P D vwCl (ww_X0_cutByRules cI cM a_this a_this_low a_this_high a_p1 a_p1_low a_p1_high a_p1_kind a_p1_x a_p1_y a_p1_z v_cut v_empty v_p1_unknowns v_p1_rules v_p1_x v_p1_y v_p1_z v_p1_kind v_low v_high) H → va_D A (ww_X0_cutByRules cI cM a_this a_this_low a_this_high a_p1 a_p1_low a_p1_high a_p1_kind a_p1_x a_p1_y a_p1_z v_cut v_empty v_p1_unknowns v_p1_rules v_p1_x v_p1_y v_p1_z v_p1_kind v_low v_high) → va_S A s.heap H locs → lv_has ls 10 [(0, .ref a_this), (1, .ref a_p1), (2, .int x2), (3, .int x3), (4, .int x4), (5, .int x5)] → W p l e rm_X0_cutByRules s m args below meth c H locs 0 0 (MQ below (g_QI D (g_tys cI cM) A (ww_X0_cutByRules cI cM a_this a_this_low a_this_high a_p1 a_p1_low a_p1_high a_p1_kind a_p1_x a_p1_y a_p1_z o_cut o_empty v_p1_unknowns v_p1_rules v_p1_x v_p1_y v_p1_z v_p1_kind o_low o_high) r) args s 0 0 A) (F0 m 8 ls []) := by
  intro n
  induction n with
  | zero =>
    intro v_cut v_empty v_low v_high x2 x3 x4 x5 H locs ls hf
    exact absurd hf (fun h => nomatch h)
  | succ n ih =>
    intro v_cut v_empty v_low v_high x2 x3 x4 x5 H locs ls hf
    exact w_X0_cutByRules_C8 C0 hA hK _ ih v_cut v_empty v_low v_high x2 x3 x4 x5 H locs ls hf
def f_X0_cutByRules (N : Nat) (v_p1_x : Nat → Int32) (v_p1_y : Nat → Int32) (v_p1_z : Nat → Int32) (v_p1_kind : Nat → Int32) (v_cut : Int32) (v_empty : Int32) (v_low : Nat → Int32) (v_high : Nat → Int32) (x2 : Int32) (x3 : Int32) (x4 : Int32) : Option (Int32 × Int32 × Int32 × (Nat → Int32) × (Nat → Int32)) :=
  f_X0_cutByRules_L8 N v_p1_x v_p1_y v_p1_z v_p1_kind N v_cut 0 v_low v_high x2 x3 x4 1
set_option maxHeartbeats 4000000 in
set_option maxRecDepth 100000 in
theorem w_X0_cutByRules_B0 {p : Program} {l : Launch} {e : Env} {s : State} {m : MethodId} {args : Array Value} {below : List Frame} {meth : Method} {c : Code} {D : va_G} {cI cM : ClassId} {A : Nat → Prop} {a_this a_this_low a_this_high a_p1 a_p1_low a_p1_high a_p1_kind a_p1_x a_p1_y a_p1_z : Nat} {v_p1_unknowns : Int32} {v_p1_rules : Int32} {N : Nat} {v_p1_x : Nat → Int32} {v_p1_y : Nat → Int32} {v_p1_z : Nat → Int32} {v_p1_kind : Nat → Int32} {r : Int32} {o_cut : Int32} {o_empty : Int32} {o_low : Nat → Int32} {o_high : Nat → Int32} (C0 : g_cx cX0_cutByRules (some .int) 10 RX0 wsX0_cutByRules p s m args meth c) (hA : ∀ q, s.heap.size ≤ q → A q) (hK : va_K D vwCl (g_tys cI cM) s) : ∀ (v_cut : Int32) (v_empty : Int32) (v_low : Nat → Int32) (v_high : Nat → Int32) (x2 : Int32) (x3 : Int32) (x4 : Int32) (H : Heap) (locs : List Loc) (ls : Array Slot), f_X0_cutByRules N v_p1_x v_p1_y v_p1_z v_p1_kind v_cut v_empty v_low v_high x2 x3 x4 = some (r, o_cut, o_empty, o_low, o_high) → va_P D vwCl (ww_X0_cutByRules cI cM a_this a_this_low a_this_high a_p1 a_p1_low a_p1_high a_p1_kind a_p1_x a_p1_y a_p1_z v_cut v_empty v_p1_unknowns v_p1_rules v_p1_x v_p1_y v_p1_z v_p1_kind v_low v_high) H → va_D A (ww_X0_cutByRules cI cM a_this a_this_low a_this_high a_p1 a_p1_low a_p1_high a_p1_kind a_p1_x a_p1_y a_p1_z v_cut v_empty v_p1_unknowns v_p1_rules v_p1_x v_p1_y v_p1_z v_p1_kind v_low v_high) → va_S A s.heap H locs → lv_has ls 10 [(0, .ref a_this), (1, .ref a_p1), (2, .int x2), (3, .int x3), (4, .int x4)] → W p l e rm_X0_cutByRules s m args below meth c H locs 0 0 (MQ below (g_QI D (g_tys cI cM) A (ww_X0_cutByRules cI cM a_this a_this_low a_this_high a_p1 a_p1_low a_p1_high a_p1_kind a_p1_x a_p1_y a_p1_z o_cut o_empty v_p1_unknowns v_p1_rules v_p1_x v_p1_y v_p1_z v_p1_kind o_low o_high) r) args s 0 0 A) (F0 m 0 ls []) := by
  obtain ⟨hx, hb, hr, hml, hown, hts, hlocks⟩ := id C0
  intro v_cut v_empty v_low v_high x2 x3 x4 H locs ls hf hP hD hS hl
  unfold f_X0_cutByRules at hf
  refine lv_aload_n hx hb dX0_cutByRules_0 rfl (lv_at hl 0 rfl) ?_
  refine lv_iconst (v := 0) hx hb dX0_cutByRules_1 (by decide) ?_
  refine va_put (D := D) (ci := 0) (v := .int 0) (ty := .boolean) (C := RX0) (T := TX0) (N := 4) hx hb hts (fun _ h => (List.mem_cons_of_mem _ (List.mem_append_left _ (List.mem_append_right _ h)))) tyX0 tyX0_ok nmX0 hown hK hP hD hS 0 rfl rfl 3 (by decide) (hts (.fieldLink RX0 24 "FloatBoxes$Cutter" "empty" "Z") (List.mem_cons_of_mem _ (List.mem_append_left _ (List.mem_append_left _ (List.mem_append_left _ (List.mem_of_getElem? (i := 0) rfl)))))) (fun _ h9 => h9) rfl (by decide +kernel) (by decide) (by decide) (Nat.le_of_ble_eq_true rfl) dX0_cutByRules_2 (fun H locs hP hD hS => ?_)
  replace hP : va_P D vwCl (ww_X0_cutByRules cI cM a_this a_this_low a_this_high a_p1 a_p1_low a_p1_high a_p1_kind a_p1_x a_p1_y a_p1_z v_cut 0 v_p1_unknowns v_p1_rules v_p1_x v_p1_y v_p1_z v_p1_kind v_low v_high) H := hP
  replace hD : va_D A (ww_X0_cutByRules cI cM a_this a_this_low a_this_high a_p1 a_p1_low a_p1_high a_p1_kind a_p1_x a_p1_y a_p1_z v_cut 0 v_p1_unknowns v_p1_rules v_p1_x v_p1_y v_p1_z v_p1_kind v_low v_high) := hD
  refine lv_iconst (v := 1) hx hb dX0_cutByRules_5 (by decide) ?_
  refine lv_istore (lv' := [(5, .int 1), (0, .ref a_this), (1, .ref a_p1), (2, .int x2), (3, .int x3), (4, .int x4)]) hx hb dX0_cutByRules_6 hl (by decide) rfl (fun ls hl => ?_)
  exact w_X0_cutByRules_L8 C0 hA hK N v_cut 0 v_low v_high x2 x3 x4 1 H locs ls hf hP hD hS (lv_sub hl [1, 2, 3, 4, 5, 0] rfl)
set_option maxHeartbeats 4000000 in
set_option maxRecDepth 100000 in
theorem c_X0_cutByRules (l : Launch) (D : va_G) (cI cM : ClassId) (a_this a_this_low a_this_high a_p1 a_p1_low a_p1_high a_p1_kind a_p1_x a_p1_y a_p1_z : Nat) (sz : Nat) (v_cut : Int32) (v_empty : Int32) (v_p1_unknowns : Int32) (v_p1_rules : Int32) (v_p1_x : Nat → Int32) (v_p1_y : Nat → Int32) (v_p1_z : Nat → Int32) (v_p1_kind : Nat → Int32) (v_low : Nat → Int32) (v_high : Nat → Int32) {N : Nat} {x2 : Int32} {x3 : Int32} {x4 : Int32} {r : Int32} {o_cut : Int32} {o_empty : Int32} {o_low : Nat → Int32} {o_high : Nat → Int32} (hf : f_X0_cutByRules N v_p1_x v_p1_y v_p1_z v_p1_kind v_cut v_empty v_low v_high x2 x3 x4 = some (r, o_cut, o_empty, o_low, o_high)) : Met l yX0_cutByRules wsX0_cutByRules rm_X0_cutByRules (g_Pc D (g_tys cI cM) (ww_X0_cutByRules cI cM a_this a_this_low a_this_high a_p1 a_p1_low a_p1_high a_p1_kind a_p1_x a_p1_y a_p1_z v_cut v_empty v_p1_unknowns v_p1_rules v_p1_x v_p1_y v_p1_z v_p1_kind v_low v_high) sz [.ref a_this, .ref a_p1, .int x2, .int x3, .int x4]) (g_QI D (g_tys cI cM) (va_A (ww_X0_cutByRules cI cM a_this a_this_low a_this_high a_p1 a_p1_low a_p1_high a_p1_kind a_p1_x a_p1_y a_p1_z v_cut v_empty v_p1_unknowns v_p1_rules v_p1_x v_p1_y v_p1_z v_p1_kind v_low v_high) sz) (ww_X0_cutByRules cI cM a_this a_this_low a_this_high a_p1 a_p1_low a_p1_high a_p1_kind a_p1_x a_p1_y a_p1_z o_cut o_empty v_p1_unknowns v_p1_rules v_p1_x v_p1_y v_p1_z v_p1_kind o_low o_high) r) 0 0 (va_A (ww_X0_cutByRules cI cM a_this a_this_low a_this_high a_p1 a_p1_low a_p1_high a_p1_kind a_p1_x a_p1_y a_p1_z v_cut v_empty v_p1_unknowns v_p1_rules v_p1_x v_p1_y v_p1_z v_p1_kind v_low v_high) sz) := by
  refine g_met (cc := cX0_cutByRules) (maxL := 10) (ret := (some .int)) (Qc := fun D A => g_QI D (g_tys cI cM) A (ww_X0_cutByRules cI cM a_this a_this_low a_this_high a_p1 a_p1_low a_p1_high a_p1_kind a_p1_x a_p1_y a_p1_z o_cut o_empty v_p1_unknowns v_p1_rules v_p1_x v_p1_y v_p1_z v_p1_kind o_low o_high) r) (by decide) rfl ?_
  intro p e s m below meth c A C0 hA hK hP hD
  have hl := lv_entry ([.ref a_this, .ref a_p1, .int x2, .int x3, .int x4]) (n := 10) (Nat.le_of_ble_eq_true rfl)
  rw [lg_entry_eq]
  generalize (lg_sl ([.ref a_this, .ref a_p1, .int x2, .int x3, .int x4]) ++ List.replicate (10 - (lg_sl ([.ref a_this, .ref a_p1, .int x2, .int x3, .int x4])).length) Slot.unset).toArray = ls at hl ⊢
  have hl : lv_has ls 10 [(0, .ref a_this), (1, .ref a_p1), (2, .int x2), (3, .int x3), (4, .int x4)] := hl
  exact w_X0_cutByRules_B0 C0 hA hK v_cut v_empty v_low v_high x2 x3 x4 s.heap [] ls hf hP hD va_S.rf (lv_sub hl [0, 1, 2, 3, 4] rfl)
