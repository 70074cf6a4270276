/-! FloatBoxes$Cutter.load([I[II)V -/
abbrev rm_X0_load : Room := { frames := 1, cells := 0, slots := 0, locals := 48 }
abbrev ww_X0_load (cI cM : ClassId) (n_p1 : Nat) (n_p2 : Nat) (a_this a_this_low a_this_high a_p1 a_p2 : Nat) (v_cut : Int32) (v_empty : Int32) (v_p1 : Nat → Int32) (v_low : Nat → Int32) (v_p2 : Nat → Int32) (v_high : Nat → Int32) : va_W := [(a_this, .inr (0, [.ref a_this_low, .ref a_this_high, .int v_cut, .int v_empty])), (a_p1, .inl (cI, n_p1, .inl v_p1)), (a_this_low, .inl (cI, 6, .inl v_low)), (a_p2, .inl (cI, n_p2, .inl v_p2)), (a_this_high, .inl (cI, 6, .inl v_high))]
def f_X0_load (n_p1 : Nat) (n_p2 : Nat) (v_p1 : Nat → Int32) (v_p2 : Nat → Int32) (v_low : Nat → Int32) (v_high : Nat → Int32) (x3 : Int32) : Option ((Nat → Int32) × (Nat → Int32)) :=
  o_ck (decide (¬ x3 < 0 ∧ ¬ (0 : Int32) < 0 ∧ ¬ (6 : Int32) < 0 ∧ x3.toNatClampNeg + (6 : Int32).toNatClampNeg ≤ n_p1 ∧ (0 : Int32).toNatClampNeg + (6 : Int32).toNatClampNeg ≤ 6)) (
  o_ck (decide (¬ x3 < 0 ∧ ¬ (0 : Int32) < 0 ∧ ¬ (6 : Int32) < 0 ∧ x3.toNatClampNeg + (6 : Int32).toNatClampNeg ≤ n_p2 ∧ (0 : Int32).toNatClampNeg + (6 : Int32).toNatClampNeg ≤ 6)) (
  some (va_cpy v_p1 v_low x3.toNatClampNeg (0 : Int32).toNatClampNeg (6 : Int32).toNatClampNeg, va_cpy v_p2 v_high x3.toNatClampNeg (0 : Int32).toNatClampNeg (6 : Int32).toNatClampNeg)))
set_option maxHeartbeats 4000000 in
set_option maxRecDepth 100000 in
theorem w_X0_load_B0 {p : Program} {l : Launch} {e : Env} {s : State} {m : MethodId} {args : Array Value} {below : List Frame} {meth : Method} {c : Code} {D : va_G} {cI cM : ClassId} {A : Nat → Prop} {n_p1 : Nat} {n_p2 : Nat} {a_this a_this_low a_this_high a_p1 a_p2 : Nat} {v_cut : Int32} {v_empty : Int32} {v_p1 : Nat → Int32} {v_p2 : Nat → Int32} {o_low : Nat → Int32} {o_high : Nat → Int32} (C0 : g_cx cX0_load none 4 RX0 wsX0_load p s m args meth c) (hA : ∀ q, s.heap.size ≤ q → A q) (hK : va_K D vwCl (g_tys cI cM) s) : ∀ (v_low : Nat → Int32) (v_high : Nat → Int32) (x3 : Int32) (H : Heap) (locs : List Loc) (ls : Array Slot), f_X0_load n_p1 n_p2 v_p1 v_p2 v_low v_high x3 = some (o_low, o_high) → va_P D vwCl (ww_X0_load cI cM n_p1 n_p2 a_this a_this_low a_this_high a_p1 a_p2 v_cut v_empty v_p1 v_low v_p2 v_high) H → va_D A (ww_X0_load cI cM n_p1 n_p2 a_this a_this_low a_this_high a_p1 a_p2 v_cut v_empty v_p1 v_low v_p2 v_high) → va_S A s.heap H locs → lv_has ls 4 [(0, .ref a_this), (1, .ref a_p1), (2, .ref a_p2), (3, .int x3)] → W p l e rm_X0_load s m args below meth c H locs 0 0 (MQ below (g_QV D (g_tys cI cM) A (ww_X0_load cI cM n_p1 n_p2 a_this a_this_low a_this_high a_p1 a_p2 v_cut v_empty v_p1 o_low v_p2 o_high)) args s 0 0 A) (F0 m 0 ls []) := by
  obtain ⟨hx, hb, hr, hml, hown, hts, hlocks⟩ := id C0
  intro v_low v_high x3 H locs ls hf hP hD hS hl
  unfold f_X0_load at hf
  refine lv_aload_n hx hb dX0_load_0 rfl (lv_at hl 1 rfl) ?_
  refine lv_iload_n hx hb dX0_load_1 rfl (lv_at hl 3 rfl) ?_
  refine lv_aload_n hx hb dX0_load_2 rfl (lv_at hl 0 rfl) ?_
  refine va_get (D := D) (ci := 0) (v := .ref a_this_low) (C := RX0) (T := TX0) (N := 4) hx hb hts (fun _ h => (List.mem_cons_of_mem _ (List.mem_append_right _ h))) hown hK hP 0 rfl rfl 0 (by decide) (hts (.fieldLink RX0 9 "FloatBoxes$Cutter" "low" "[I") (List.mem_cons_of_mem _ (List.mem_append_left _ (List.mem_of_getElem? (i := 0) rfl)))) (fun _ h9 => h9) rfl dX0_load_3 ?_
  refine lv_iconst (v := 0) hx hb dX0_load_6 (by decide) ?_
  refine lv_bipush (v := 6) hx hb dX0_load_7 (by decide) ?_
  obtain ⟨h9, hf⟩ := o_ck_go hf
  obtain ⟨h9a, h9b, h9c, h9d, h9e⟩ := of_decide_eq_true h9
  refine va_copyi hx hb (by rw [hml]; exact hl.1.symm) hown (hts (.methodLink RX0 18 arraycopyName) (List.mem_cons_of_mem _ (List.mem_append_left _ (List.mem_of_getElem? (i := 1) rfl)))) (hts (.native arraycopyName) (List.mem_cons_of_mem _ (List.mem_append_left _ (List.mem_of_getElem? (i := 2) rfl)))) (hts (.static arraycopyName) (List.mem_cons_of_mem _ (List.mem_append_left _ (List.mem_of_getElem? (i := 3) rfl)))) (hts (.initialized "java/lang/System") (List.mem_cons_of_mem _ (List.mem_append_left _ (List.mem_of_getElem? (i := 4) rfl)))) hK hP hD hS 1 2 0 0 rfl rfl rfl rfl rfl h9a h9b h9c h9d h9e (fun i _ => rfl) (Nat.le_of_ble_eq_true rfl) (Nat.le_of_ble_eq_true (by decide)) dX0_load_9 (fun H locs hP hD hS => ?_)
  replace hP : va_P D vwCl (ww_X0_load cI cM n_p1 n_p2 a_this a_this_low a_this_high a_p1 a_p2 v_cut v_empty v_p1 (va_cpy v_p1 v_low x3.toNatClampNeg (0 : Int32).toNatClampNeg (6 : Int32).toNatClampNeg) v_p2 v_high) H := hP
  replace hD : va_D A (ww_X0_load cI cM n_p1 n_p2 a_this a_this_low a_this_high a_p1 a_p2 v_cut v_empty v_p1 (va_cpy v_p1 v_low x3.toNatClampNeg (0 : Int32).toNatClampNeg (6 : Int32).toNatClampNeg) v_p2 v_high) := hD
  refine lv_aload_n hx hb dX0_load_12 rfl (lv_at hl 2 rfl) ?_
  refine lv_iload_n hx hb dX0_load_13 rfl (lv_at hl 3 rfl) ?_
  refine lv_aload_n hx hb dX0_load_14 rfl (lv_at hl 0 rfl) ?_
  refine va_get (D := D) (ci := 0) (v := .ref a_this_high) (C := RX0) (T := TX0) (N := 4) hx hb hts (fun _ h => (List.mem_cons_of_mem _ (List.mem_append_right _ h))) hown hK hP 0 rfl rfl 1 (by decide) (hts (.fieldLink RX0 15 "FloatBoxes$Cutter" "high" "[I") (List.mem_cons_of_mem _ (List.mem_append_left _ (List.mem_of_getElem? (i := 5) rfl)))) (fun _ h9 => h9) rfl dX0_load_15 ?_
  refine lv_iconst (v := 0) hx hb dX0_load_18 (by decide) ?_
  refine lv_bipush (v := 6) hx hb dX0_load_19 (by decide) ?_
  obtain ⟨h21, hf⟩ := o_ck_go hf
  obtain ⟨h21a, h21b, h21c, h21d, h21e⟩ := of_decide_eq_true h21
  refine va_copyi hx hb (by rw [hml]; exact hl.1.symm) hown (hts (.methodLink RX0 18 arraycopyName) (List.mem_cons_of_mem _ (List.mem_append_left _ (List.mem_of_getElem? (i := 1) rfl)))) (hts (.native arraycopyName) (List.mem_cons_of_mem _ (List.mem_append_left _ (List.mem_of_getElem? (i := 2) rfl)))) (hts (.static arraycopyName) (List.mem_cons_of_mem _ (List.mem_append_left _ (List.mem_of_getElem? (i := 3) rfl)))) (hts (.initialized "java/lang/System") (List.mem_cons_of_mem _ (List.mem_append_left _ (List.mem_of_getElem? (i := 4) rfl)))) hK hP hD hS 3 4 0 0 rfl rfl rfl rfl rfl h21a h21b h21c h21d h21e (fun i _ => rfl) (Nat.le_of_ble_eq_true rfl) (Nat.le_of_ble_eq_true (by decide)) dX0_load_21 (fun H locs hP hD hS => ?_)
  replace hP : va_P D vwCl (ww_X0_load cI cM n_p1 n_p2 a_this a_this_low a_this_high a_p1 a_p2 v_cut v_empty v_p1 (va_cpy v_p1 v_low x3.toNatClampNeg (0 : Int32).toNatClampNeg (6 : Int32).toNatClampNeg) v_p2 (va_cpy v_p2 v_high x3.toNatClampNeg (0 : Int32).toNatClampNeg (6 : Int32).toNatClampNeg)) H := hP
  replace hD : va_D A (ww_X0_load cI cM n_p1 n_p2 a_this a_this_low a_this_high a_p1 a_p2 v_cut v_empty v_p1 (va_cpy v_p1 v_low x3.toNatClampNeg (0 : Int32).toNatClampNeg (6 : Int32).toNatClampNeg) v_p2 (va_cpy v_p2 v_high x3.toNatClampNeg (0 : Int32).toNatClampNeg (6 : Int32).toNatClampNeg)) := hD
  obtain ⟨q0, y0⟩ := o_rp hf
  have q1 := Option.some.inj y0
  subst q0 q1
  exact g_vret hx hb hr hlocks hP hD hK hS dX0_load_24
set_option maxHeartbeats 4000000 in
set_option maxRecDepth 100000 in
theorem c_X0_load (l : Launch) (D : va_G) (cI cM : ClassId) (n_p1 : Nat) (n_p2 : Nat) (a_this a_this_low a_this_high a_p1 a_p2 : Nat) (sz : Nat) (v_cut : Int32) (v_empty : Int32) (v_p1 : Nat → Int32) (v_low : Nat → Int32) (v_p2 : Nat → Int32) (v_high : Nat → Int32) {x3 : Int32} {o_low : Nat → Int32} {o_high : Nat → Int32} (hf : f_X0_load n_p1 n_p2 v_p1 v_p2 v_low v_high x3 = some (o_low, o_high)) : Met l yX0_load wsX0_load rm_X0_load (g_Pc D (g_tys cI cM) (ww_X0_load cI cM n_p1 n_p2 a_this a_this_low a_this_high a_p1 a_p2 v_cut v_empty v_p1 v_low v_p2 v_high) sz [.ref a_this, .ref a_p1, .ref a_p2, .int x3]) (g_QV D (g_tys cI cM) (va_A (ww_X0_load cI cM n_p1 n_p2 a_this a_this_low a_this_high a_p1 a_p2 v_cut v_empty v_p1 v_low v_p2 v_high) sz) (ww_X0_load cI cM n_p1 n_p2 a_this a_this_low a_this_high a_p1 a_p2 v_cut v_empty v_p1 o_low v_p2 o_high)) 0 0 (va_A (ww_X0_load cI cM n_p1 n_p2 a_this a_this_low a_this_high a_p1 a_p2 v_cut v_empty v_p1 v_low v_p2 v_high) sz) := by
  refine g_met (cc := cX0_load) (maxL := 4) (ret := none) (Qc := fun D A => g_QV D (g_tys cI cM) A (ww_X0_load cI cM n_p1 n_p2 a_this a_this_low a_this_high a_p1 a_p2 v_cut v_empty v_p1 o_low v_p2 o_high)) (by decide) rfl ?_
  intro p e s m below meth c A C0 hA hK hP hD
  have hl := lv_entry ([.ref a_this, .ref a_p1, .ref a_p2, .int x3]) (n := 4) (Nat.le_of_ble_eq_true rfl)
  rw [lg_entry_eq]
  generalize (lg_sl ([.ref a_this, .ref a_p1, .ref a_p2, .int x3]) ++ List.replicate (4 - (lg_sl ([.ref a_this, .ref a_p1, .ref a_p2, .int x3])).length) Slot.unset).toArray = ls at hl ⊢
  have hl : lv_has ls 4 [(0, .ref a_this), (1, .ref a_p1), (2, .ref a_p2), (3, .int x3)] := hl
  exact w_X0_load_B0 C0 hA hK v_low v_high x3 s.heap [] ls hf hP hD va_S.rf (lv_sub hl [0, 1, 2, 3] rfl)
/-! FloatBoxes$Cutter.store([I[II)V -/
abbrev rm_X0_store : Room := { frames := 1, cells := 0, slots := 0, locals := 48 }
abbrev ww_X0_store (cI cM : ClassId) (n_p1 : Nat) (n_p2 : Nat) (a_this a_this_low a_this_high a_p1 a_p2 : Nat) (v_cut : Int32) (v_empty : Int32) (v_low : Nat → Int32) (v_p1 : Nat → Int32) (v_high : Nat → Int32) (v_p2 : Nat → Int32) : va_W := [(a_this, .inr (0, [.ref a_this_low, .ref a_this_high, .int v_cut, .int v_empty])), (a_this_low, .inl (cI, 6, .inl v_low)), (a_p1, .inl (cI, n_p1, .inl v_p1)), (a_this_high, .inl (cI, 6, .inl v_high)), (a_p2, .inl (cI, n_p2, .inl v_p2))]
def f_X0_store (n_p1 : Nat) (n_p2 : Nat) (v_low : Nat → Int32) (v_high : Nat → Int32) (v_p1 : Nat → Int32) (v_p2 : Nat → Int32) (x3 : Int32) : Option ((Nat → Int32) × (Nat → Int32)) :=
  o_ck (decide (¬ (0 : Int32) < 0 ∧ ¬ x3 < 0 ∧ ¬ (6 : Int32) < 0 ∧ (0 : Int32).toNatClampNeg + (6 : Int32).toNatClampNeg ≤ 6 ∧ x3.toNatClampNeg + (6 : Int32).toNatClampNeg ≤ n_p1)) (
  o_ck (decide (¬ (0 : Int32) < 0 ∧ ¬ x3 < 0 ∧ ¬ (6 : Int32) < 0 ∧ (0 : Int32).toNatClampNeg + (6 : Int32).toNatClampNeg ≤ 6 ∧ x3.toNatClampNeg + (6 : Int32).toNatClampNeg ≤ n_p2)) (
  some (va_cpy v_low v_p1 (0 : Int32).toNatClampNeg x3.toNatClampNeg (6 : Int32).toNatClampNeg, va_cpy v_high v_p2 (0 : Int32).toNatClampNeg x3.toNatClampNeg (6 : Int32).toNatClampNeg)))
set_option maxHeartbeats 4000000 in
set_option maxRecDepth 100000 in
theorem w_X0_store_B0 {p : Program} {l : Launch} {e : Env} {s : State} {m : MethodId} {args : Array Value} {below : List Frame} {meth : Method} {c : Code} {D : va_G} {cI cM : ClassId} {A : Nat → Prop} {n_p1 : Nat} {n_p2 : Nat} {a_this a_this_low a_this_high a_p1 a_p2 : Nat} {v_cut : Int32} {v_empty : Int32} {v_low : Nat → Int32} {v_high : Nat → Int32} {o_p1 : Nat → Int32} {o_p2 : Nat → Int32} (C0 : g_cx cX0_store none 4 RX0 wsX0_store p s m args meth c) (hA : ∀ q, s.heap.size ≤ q → A q) (hK : va_K D vwCl (g_tys cI cM) s) : ∀ (v_p1 : Nat → Int32) (v_p2 : Nat → Int32) (x3 : Int32) (H : Heap) (locs : List Loc) (ls : Array Slot), f_X0_store n_p1 n_p2 v_low v_high v_p1 v_p2 x3 = some (o_p1, o_p2) → va_P D vwCl (ww_X0_store cI cM n_p1 n_p2 a_this a_this_low a_this_high a_p1 a_p2 v_cut v_empty v_low v_p1 v_high v_p2) H → va_D A (ww_X0_store cI cM n_p1 n_p2 a_this a_this_low a_this_high a_p1 a_p2 v_cut v_empty v_low v_p1 v_high v_p2) → va_S A s.heap H locs → lv_has ls 4 [(0, .ref a_this), (1, .ref a_p1), (2, .ref a_p2), (3, .int x3)] → W p l e rm_X0_store s m args below meth c H locs 0 0 (MQ below (g_QV D (g_tys cI cM) A (ww_X0_store cI cM n_p1 n_p2 a_this a_this_low a_this_high a_p1 a_p2 v_cut v_empty v_low o_p1 v_high o_p2)) args s 0 0 A) (F0 m 0 ls []) := by
  obtain ⟨hx, hb, hr, hml, hown, hts, hlocks⟩ := id C0
  intro v_p1 v_p2 x3 H locs ls hf hP hD hS hl
  unfold f_X0_store at hf
  refine lv_aload_n hx hb dX0_store_0 rfl (lv_at hl 0 rfl) ?_
  refine va_get (D := D) (ci := 0) (v := .ref a_this_low) (C := RX0) (T := TX0) (N := 4) hx hb hts (fun _ h => (List.mem_cons_of_mem _ (List.mem_append_right _ h))) hown hK hP 0 rfl rfl 0 (by decide) (hts (.fieldLink RX0 9 "FloatBoxes$Cutter" "low" "[I") (List.mem_cons_of_mem _ (List.mem_append_left _ (List.mem_of_getElem? (i := 0) rfl)))) (fun _ h9 => h9) rfl dX0_store_1 ?_
  refine lv_iconst (v := 0) hx hb dX0_store_4 (by decide) ?_
  refine lv_aload_n hx hb dX0_store_5 rfl (lv_at hl 1 rfl) ?_
  refine lv_iload_n hx hb dX0_store_6 rfl (lv_at hl 3 rfl) ?_
  refine lv_bipush (v := 6) hx hb dX0_store_7 (by decide) ?_
  obtain ⟨h9, hf⟩ := o_ck_go hf
  obtain ⟨h9a, h9b, h9c, h9d, h9e⟩ := of_decide_eq_true h9
  refine va_copyi hx hb (by rw [hml]; exact hl.1.symm) hown (hts (.methodLink RX0 18 arraycopyName) (List.mem_cons_of_mem _ (List.mem_append_left _ (List.mem_of_getElem? (i := 1) rfl)))) (hts (.native arraycopyName) (List.mem_cons_of_mem _ (List.mem_append_left _ (List.mem_of_getElem? (i := 2) rfl)))) (hts (.static arraycopyName) (List.mem_cons_of_mem _ (List.mem_append_left _ (List.mem_of_getElem? (i := 3) rfl)))) (hts (.initialized "java/lang/System") (List.mem_cons_of_mem _ (List.mem_append_left _ (List.mem_of_getElem? (i := 4) rfl)))) hK hP hD hS 1 2 0 0 rfl rfl rfl rfl rfl h9a h9b h9c h9d h9e (fun i _ => rfl) (Nat.le_of_ble_eq_true rfl) (Nat.le_of_ble_eq_true (by decide)) dX0_store_9 (fun H locs hP hD hS => ?_)
  replace hP : va_P D vwCl (ww_X0_store cI cM n_p1 n_p2 a_this a_this_low a_this_high a_p1 a_p2 v_cut v_empty v_low (va_cpy v_low v_p1 (0 : Int32).toNatClampNeg x3.toNatClampNeg (6 : Int32).toNatClampNeg) v_high v_p2) H := hP
  replace hD : va_D A (ww_X0_store cI cM n_p1 n_p2 a_this a_this_low a_this_high a_p1 a_p2 v_cut v_empty v_low (va_cpy v_low v_p1 (0 : Int32).toNatClampNeg x3.toNatClampNeg (6 : Int32).toNatClampNeg) v_high v_p2) := hD
  refine lv_aload_n hx hb dX0_store_12 rfl (lv_at hl 0 rfl) ?_
  refine va_get (D := D) (ci := 0) (v := .ref a_this_high) (C := RX0) (T := TX0) (N := 4) hx hb hts (fun _ h => (List.mem_cons_of_mem _ (List.mem_append_right _ h))) hown hK hP 0 rfl rfl 1 (by decide) (hts (.fieldLink RX0 15 "FloatBoxes$Cutter" "high" "[I") (List.mem_cons_of_mem _ (List.mem_append_left _ (List.mem_of_getElem? (i := 5) rfl)))) (fun _ h9 => h9) rfl dX0_store_13 ?_
  refine lv_iconst (v := 0) hx hb dX0_store_16 (by decide) ?_
  refine lv_aload_n hx hb dX0_store_17 rfl (lv_at hl 2 rfl) ?_
  refine lv_iload_n hx hb dX0_store_18 rfl (lv_at hl 3 rfl) ?_
  refine lv_bipush (v := 6) hx hb dX0_store_19 (by decide) ?_
  obtain ⟨h21, hf⟩ := o_ck_go hf
  obtain ⟨h21a, h21b, h21c, h21d, h21e⟩ := of_decide_eq_true h21
  refine va_copyi hx hb (by rw [hml]; exact hl.1.symm) hown (hts (.methodLink RX0 18 arraycopyName) (List.mem_cons_of_mem _ (List.mem_append_left _ (List.mem_of_getElem? (i := 1) rfl)))) (hts (.native arraycopyName) (List.mem_cons_of_mem _ (List.mem_append_left _ (List.mem_of_getElem? (i := 2) rfl)))) (hts (.static arraycopyName) (List.mem_cons_of_mem _ (List.mem_append_left _ (List.mem_of_getElem? (i := 3) rfl)))) (hts (.initialized "java/lang/System") (List.mem_cons_of_mem _ (List.mem_append_left _ (List.mem_of_getElem? (i := 4) rfl)))) hK hP hD hS 3 4 0 0 rfl rfl rfl rfl rfl h21a h21b h21c h21d h21e (fun i _ => rfl) (Nat.le_of_ble_eq_true rfl) (Nat.le_of_ble_eq_true (by decide)) dX0_store_21 (fun H locs hP hD hS => ?_)
  replace hP : va_P D vwCl (ww_X0_store cI cM n_p1 n_p2 a_this a_this_low a_this_high a_p1 a_p2 v_cut v_empty v_low (va_cpy v_low v_p1 (0 : Int32).toNatClampNeg x3.toNatClampNeg (6 : Int32).toNatClampNeg) v_high (va_cpy v_high v_p2 (0 : Int32).toNatClampNeg x3.toNatClampNeg (6 : Int32).toNatClampNeg)) H := hP
  replace hD : va_D A (ww_X0_store cI cM n_p1 n_p2 a_this a_this_low a_this_high a_p1 a_p2 v_cut v_empty v_low (va_cpy v_low v_p1 (0 : Int32).toNatClampNeg x3.toNatClampNeg (6 : Int32).toNatClampNeg) v_high (va_cpy v_high v_p2 (0 : Int32).toNatClampNeg x3.toNatClampNeg (6 : Int32).toNatClampNeg)) := hD
  obtain ⟨q0, y0⟩ := o_rp hf
  have q1 := Option.some.inj y0
  subst q0 q1
  exact g_vret hx hb hr hlocks hP hD hK hS dX0_store_24
set_option maxHeartbeats 4000000 in
set_option maxRecDepth 100000 in
theorem c_X0_store (l : Launch) (D : va_G) (cI cM : ClassId) (n_p1 : Nat) (n_p2 : Nat) (a_this a_this_low a_this_high a_p1 a_p2 : Nat) (sz : Nat) (v_cut : Int32) (v_empty : Int32) (v_low : Nat → Int32) (v_p1 : Nat → Int32) (v_high : Nat → Int32) (v_p2 : Nat → Int32) {x3 : Int32} {o_p1 : Nat → Int32} {o_p2 : Nat → Int32} (hf : f_X0_store n_p1 n_p2 v_low v_high v_p1 v_p2 x3 = some (o_p1, o_p2)) : Met l yX0_store wsX0_store rm_X0_store (g_Pc D (g_tys cI cM) (ww_X0_store cI cM n_p1 n_p2 a_this a_this_low a_this_high a_p1 a_p2 v_cut v_empty v_low v_p1 v_high v_p2) sz [.ref a_this, .ref a_p1, .ref a_p2, .int x3]) (g_QV D (g_tys cI cM) (va_A (ww_X0_store cI cM n_p1 n_p2 a_this a_this_low a_this_high a_p1 a_p2 v_cut v_empty v_low v_p1 v_high v_p2) sz) (ww_X0_store cI cM n_p1 n_p2 a_this a_this_low a_this_high a_p1 a_p2 v_cut v_empty v_low o_p1 v_high o_p2)) 0 0 (va_A (ww_X0_store cI cM n_p1 n_p2 a_this a_this_low a_this_high a_p1 a_p2 v_cut v_empty v_low v_p1 v_high v_p2) sz) := by
  refine g_met (cc := cX0_store) (maxL := 4) (ret := none) (Qc := fun D A => g_QV D (g_tys cI cM) A (ww_X0_store cI cM n_p1 n_p2 a_this a_this_low a_this_high a_p1 a_p2 v_cut v_empty v_low o_p1 v_high o_p2)) (by decide) rfl ?_
  intro p e s m below meth c A C0 hA hK hP hD
  have hl := lv_entry ([.ref a_this, .ref a_p1, .ref a_p2, .int x3]) (n := 4) (Nat.le_of_ble_eq_true rfl)
  rw [lg_entry_eq]
  generalize (lg_sl ([.ref a_this, .ref a_p1, .ref a_p2, .int x3]) ++ List.replicate (4 - (lg_sl ([.ref a_this, .ref a_p1, .ref a_p2, .int x3])).length) Slot.unset).toArray = ls at hl ⊢
  have hl : lv_has ls 4 [(0, .ref a_this), (1, .ref a_p1), (2, .ref a_p2), (3, .int x3)] := hl
  exact w_X0_store_B0 C0 hA hK v_p1 v_p2 x3 s.heap [] ls hf hP hD va_S.rf (lv_sub hl [0, 1, 2, 3] rfl)
/-! FloatBoxes$Cutter.leave(III)V -/
abbrev rm_X0_leave : Room := { frames := 1, cells := 0, slots := 0, locals := 21 }
abbrev ww_X0_leave (cI cM : ClassId) (a_this a_this_low a_this_high : Nat) (v_cut : Int32) (v_empty : Int32) (v_low : Nat → Int32) (v_high : Nat → Int32) : va_W := [(a_this, .inr (0, [.ref a_this_low, .ref a_this_high, .int v_cut, .int v_empty])), (a_this_low, .inl (cI, 6, .inl v_low)), (a_this_high, .inl (cI, 6, .inl v_high))]
def f_X0_leave_B68  (v_cut : Int32) (v_empty : Int32) (v_low : Nat → Int32) (v_high : Nat → Int32) (x1 : Int32) (x4 : Int32) (x5 : Int32) : Option (Int32 × Int32 × (Nat → Int32) × (Nat → Int32)) :=
  o_in x1 6 (
  o_in x1 6 (
  some (1, v_empty, upd v_low x1.toNatClampNeg x4, upd v_high x1.toNatClampNeg x5)))
set_option maxHeartbeats 4000000 in
set_option maxRecDepth 100000 in
theorem w_X0_leave_B68 {p : Program} {l : Launch} {e : Env} {s : State} {m : MethodId} {args : Array Value} {below : List Frame} {meth : Method} {c : Code} {D : va_G} {cI cM : ClassId} {A : Nat → Prop} {a_this a_this_low a_this_high : Nat} {o_cut : Int32} {o_empty : Int32} {o_low : Nat → Int32} {o_high : Nat → Int32} (C0 : g_cx cX0_leave none 6 RX0 wsX0_leave p s m args meth c) (hA : ∀ q, s.heap.size ≤ q → A q) (hK : va_K D vwCl (g_tys cI cM) s) : ∀ (v_cut : Int32) (v_empty : Int32) (v_low : Nat → Int32) (v_high : Nat → Int32) (x1 : Int32) (x4 : Int32) (x5 : Int32) (H : Heap) (locs : List Loc) (ls : Array Slot), f_X0_leave_B68 v_cut v_empty v_low v_high x1 x4 x5 = some (o_cut, o_empty, o_low, o_high) → va_P D vwCl (ww_X0_leave cI cM a_this a_this_low a_this_high v_cut v_empty v_low v_high) H → va_D A (ww_X0_leave cI cM a_this a_this_low a_this_high v_cut v_empty v_low v_high) → va_S A s.heap H locs → lv_has ls 6 [(0, .ref a_this), (1, .int x1), (4, .int x4), (5, .int x5)] → W p l e rm_X0_leave s m args below meth c H locs 0 0 (MQ below (g_QV D (g_tys cI cM) A (ww_X0_leave cI cM a_this a_this_low a_this_high o_cut o_empty o_low o_high)) args s 0 0 A) (F0 m 68 ls []) := by
  obtain ⟨hx, hb, hr, hml, hown, hts, hlocks⟩ := id C0
  intro v_cut v_empty v_low v_high x1 x4 x5 H locs ls hf hP hD hS hl
  unfold f_X0_leave_B68 at hf
  refine lv_aload_n hx hb dX0_leave_68 rfl (lv_at hl 0 rfl) ?_
  refine va_get (D := D) (ci := 0) (v := .ref a_this_low) (C := RX0) (T := TX0) (N := 4) hx hb hts (fun _ h => (List.mem_cons_of_mem _ (List.mem_append_right _ h))) hown hK hP 0 rfl rfl 0 (by decide) (hts (.fieldLink RX0 9 "FloatBoxes$Cutter" "low" "[I") (List.mem_cons_of_mem _ (List.mem_append_left _ (List.mem_of_getElem? (i := 0) rfl)))) (fun _ h9 => h9) rfl dX0_leave_69 ?_
  refine lv_iload_n hx hb dX0_leave_72 rfl (lv_at hl 1 rfl) ?_
  refine lv_iload hx hb dX0_leave_73 (lv_at hl 2 rfl) ?_
  obtain ⟨h75, hf⟩ := o_in_go hf
  refine va_iast hx hb hK hP hD hS 1 0 rfl rfl h75 dX0_leave_75 (fun H locs hP hD hS => ?_)
  replace hP : va_P D vwCl (ww_X0_leave cI cM a_this a_this_low a_this_high v_cut v_empty (upd v_low x1.toNatClampNeg x4) v_high) H := hP
  replace hD : va_D A (ww_X0_leave cI cM a_this a_this_low a_this_high v_cut v_empty (upd v_low x1.toNatClampNeg x4) v_high) := hD
  refine lv_aload_n hx hb dX0_leave_76 rfl (lv_at hl 0 rfl) ?_
  refine va_get (D := D) (ci := 0) (v := .ref a_this_high) (C := RX0) (T := TX0) (N := 4) hx hb hts (fun _ h => (List.mem_cons_of_mem _ (List.mem_append_right _ h))) hown hK hP 0 rfl rfl 1 (by decide) (hts (.fieldLink RX0 15 "FloatBoxes$Cutter" "high" "[I") (List.mem_cons_of_mem _ (List.mem_append_left _ (List.mem_of_getElem? (i := 5) rfl)))) (fun _ h9 => h9) rfl dX0_leave_77 ?_
  refine lv_iload_n hx hb dX0_leave_80 rfl (lv_at hl 1 rfl) ?_
  refine lv_iload hx hb dX0_leave_81 (lv_at hl 3 rfl) ?_
  obtain ⟨h83, hf⟩ := o_in_go hf
  refine va_iast hx hb hK hP hD hS 2 0 rfl rfl h83 dX0_leave_83 (fun H locs hP hD hS => ?_)
  replace hP : va_P D vwCl (ww_X0_leave cI cM a_this a_this_low a_this_high v_cut v_empty (upd v_low x1.toNatClampNeg x4) (upd v_high x1.toNatClampNeg x5)) H := hP
  replace hD : va_D A (ww_X0_leave cI cM a_this a_this_low a_this_high v_cut v_empty (upd v_low x1.toNatClampNeg x4) (upd v_high x1.toNatClampNeg x5)) := hD
  refine lv_aload_n hx hb dX0_leave_84 rfl (lv_at hl 0 rfl) ?_
  refine lv_iconst (v := 1) hx hb dX0_leave_85 (by decide) ?_
  refine va_put (D := D) (ci := 0) (v := .int 1) (ty := .boolean) (C := RX0) (T := TX0) (N := 4) hx hb hts (fun _ h => (List.mem_cons_of_mem _ (List.mem_append_right _ h))) tyX0 tyX0_ok nmX0 hown hK hP hD hS 0 rfl rfl 2 (by decide) (hts (.fieldLink RX0 28 "FloatBoxes$Cutter" "cut" "Z") (List.mem_cons_of_mem _ (List.mem_append_left _ (List.mem_of_getElem? (i := 10) rfl)))) (fun _ h9 => h9) rfl (by decide +kernel) (by decide) (by decide) (Nat.le_of_ble_eq_true rfl) dX0_leave_86 (fun H locs hP hD hS => ?_)
  replace hP : va_P D vwCl (ww_X0_leave cI cM a_this a_this_low a_this_high 1 v_empty (upd v_low x1.toNatClampNeg x4) (upd v_high x1.toNatClampNeg x5)) H := hP
  replace hD : va_D A (ww_X0_leave cI cM a_this a_this_low a_this_high 1 v_empty (upd v_low x1.toNatClampNeg x4) (upd v_high x1.toNatClampNeg x5)) := hD
  obtain ⟨q0, y0⟩ := o_rp hf
  obtain ⟨q1, y1⟩ := o_rp y0
  obtain ⟨q2, y2⟩ := o_rp y1
  have q3 := Option.some.inj y2
  subst q0 q1 q2 q3
  exact g_vret hx hb hr hlocks hP hD hK hS dX0_leave_89
def f_X0_leave  (v_cut : Int32) (v_empty : Int32) (v_low : Nat → Int32) (v_high : Nat → Int32) (x1 : Int32) (x2 : Int32) (x3 : Int32) : Option (Int32 × Int32 × (Nat → Int32) × (Nat → Int32)) :=
  o_in x1 6 (
  o_nm (o_max (v_low x1.toNatClampNeg) x2) (fun (t10 : Int32) =>
  o_in x1 6 (
  o_nm (o_min (v_high x1.toNatClampNeg) x3) (fun (t22 : Int32) =>
  if v_empty = 0 then
    if t10 ≤ t22 then
      o_in x1 6 (
      if t10 = (v_low x1.toNatClampNeg) then
        o_in x1 6 (
        if t22 = (v_high x1.toNatClampNeg) then
          some (v_cut, v_empty, v_low, v_high)
        else
          f_X0_leave_B68 v_cut v_empty v_low v_high x1 t10 t22)
      else
        f_X0_leave_B68 v_cut v_empty v_low v_high x1 t10 t22)
    else
      some (v_cut, 1, v_low, v_high)
  else
    some (v_cut, 1, v_low, v_high)))))
set_option maxHeartbeats 4000000 in
set_option maxRecDepth 100000 in
theorem w_X0_leave_B0 {p : Program} {l : Launch} {e : Env} {s : State} {m : MethodId} {args : Array Value} {below : List Frame} {meth : Method} {c : Code} {D : va_G} {cI cM : ClassId} {A : Nat → Prop} {a_this a_this_low a_this_high : Nat} {o_cut : Int32} {o_empty : Int32} {o_low : Nat → Int32} {o_high : Nat → Int32} (C0 : g_cx cX0_leave none 6 RX0 wsX0_leave p s m args meth c) (hA : ∀ q, s.heap.size ≤ q → A q) (hK : va_K D vwCl (g_tys cI cM) s) : ∀ (v_cut : Int32) (v_empty : Int32) (v_low : Nat → Int32) (v_high : Nat → Int32) (x1 : Int32) (x2 : Int32) (x3 : Int32) (H : Heap) (locs : List Loc) (ls : Array Slot), f_X0_leave v_cut v_empty v_low v_high x1 x2 x3 = some (o_cut, o_empty, o_low, o_high) → va_P D vwCl (ww_X0_leave cI cM a_this a_this_low a_this_high v_cut v_empty v_low v_high) H → va_D A (ww_X0_leave cI cM a_this a_this_low a_this_high v_cut v_empty v_low v_high) → va_S A s.heap H locs → lv_has ls 6 [(0, .ref a_this), (1, .int x1), (2, .int x2), (3, .int x3)] → W p l e rm_X0_leave s m args below meth c H locs 0 0 (MQ below (g_QV D (g_tys cI cM) A (ww_X0_leave cI cM a_this a_this_low a_this_high o_cut o_empty o_low o_high)) args s 0 0 A) (F0 m 0 ls []) := by
  obtain ⟨hx, hb, hr, hml, hown, hts, hlocks⟩ := id C0
  intro v_cut v_empty v_low v_high x1 x2 x3 H locs ls hf hP hD hS hl
  unfold f_X0_leave at hf
  refine lv_aload_n hx hb dX0_leave_0 rfl (lv_at hl 0 rfl) ?_
  refine va_get (D := D) (ci := 0) (v := .ref a_this_low) (C := RX0) (T := TX0) (N := 4) hx hb hts (fun _ h => (List.mem_cons_of_mem _ (List.mem_append_right _ h))) hown hK hP 0 rfl rfl 0 (by decide) (hts (.fieldLink RX0 9 "FloatBoxes$Cutter" "low" "[I") (List.mem_cons_of_mem _ (List.mem_append_left _ (List.mem_of_getElem? (i := 0) rfl)))) (fun _ h9 => h9) rfl dX0_leave_1 ?_
  refine lv_iload_n hx hb dX0_leave_4 rfl (lv_at hl 1 rfl) ?_
  obtain ⟨h5, hf⟩ := o_in_go hf
  refine va_iald hx hb hK hP 1 0 rfl rfl h5 dX0_leave_5 ?_
  refine lv_iload_n hx hb dX0_leave_6 rfl (lv_at hl 2 rfl) ?_
  refine va_mmax hx hb (by rw [hml]; exact hl.1.symm) hown (hts (.methodLink RX0 69 Lib.Math.max.name) (List.mem_cons_of_mem _ (List.mem_append_left _ (List.mem_of_getElem? (i := 1) rfl)))) (hts (.static Lib.Math.max.name) (List.mem_cons_of_mem _ (List.mem_append_left _ (List.mem_of_getElem? (i := 2) rfl)))) (hts (.initialized "java/lang/Math") (List.mem_cons_of_mem _ (List.mem_append_left _ (List.mem_of_getElem? (i := 3) rfl)))) (hts (.code Lib.Math.max.name Lib.Math.max.code 2 (some .int)) (List.mem_cons_of_mem _ (List.mem_append_left _ (List.mem_of_getElem? (i := 4) rfl)))) (Nat.le_of_ble_eq_true rfl) (Nat.le_of_ble_eq_true rfl) (Nat.zero_le _) (Nat.zero_le _) dX0_leave_7 ?_
  refine lv_topi (fun t10 et10 => ?_)
  replace hf := o_nm_go et10 hf
  refine lv_istore (lv' := [(4, .int t10), (0, .ref a_this), (1, .int x1), (2, .int x2), (3, .int x3)]) hx hb dX0_leave_10 hl (by decide) rfl (fun ls hl => ?_)
  refine lv_aload_n hx hb dX0_leave_12 rfl (lv_at hl 1 rfl) ?_
  refine va_get (D := D) (ci := 0) (v := .ref a_this_high) (C := RX0) (T := TX0) (N := 4) hx hb hts (fun _ h => (List.mem_cons_of_mem _ (List.mem_append_right _ h))) hown hK hP 0 rfl rfl 1 (by decide) (hts (.fieldLink RX0 15 "FloatBoxes$Cutter" "high" "[I") (List.mem_cons_of_mem _ (List.mem_append_left _ (List.mem_of_getElem? (i := 5) rfl)))) (fun _ h9 => h9) rfl dX0_leave_13 ?_
  refine lv_iload_n hx hb dX0_leave_16 rfl (lv_at hl 2 rfl) ?_
  obtain ⟨h17, hf⟩ := o_in_go hf
  refine va_iald hx hb hK hP 2 0 rfl rfl h17 dX0_leave_17 ?_
  refine lv_iload_n hx hb dX0_leave_18 rfl (lv_at hl 4 rfl) ?_
  refine va_mmin hx hb (by rw [hml]; exact hl.1.symm) hown (hts (.methodLink RX0 75 Lib.Math.min.name) (List.mem_cons_of_mem _ (List.mem_append_left _ (List.mem_of_getElem? (i := 6) rfl)))) (hts (.static Lib.Math.min.name) (List.mem_cons_of_mem _ (List.mem_append_left _ (List.mem_of_getElem? (i := 7) rfl)))) (hts (.initialized "java/lang/Math") (List.mem_cons_of_mem _ (List.mem_append_left _ (List.mem_of_getElem? (i := 3) rfl)))) (hts (.code Lib.Math.min.name Lib.Math.min.code 2 (some .int)) (List.mem_cons_of_mem _ (List.mem_append_left _ (List.mem_of_getElem? (i := 8) rfl)))) (Nat.le_of_ble_eq_true rfl) (Nat.le_of_ble_eq_true rfl) (Nat.zero_le _) (Nat.zero_le _) dX0_leave_19 ?_
  refine lv_topi (fun t22 et22 => ?_)
  replace hf := o_nm_go et22 hf
  refine lv_istore (lv' := [(5, .int t22), (4, .int t10), (0, .ref a_this), (1, .int x1), (2, .int x2), (3, .int x3)]) hx hb dX0_leave_22 hl (by decide) rfl (fun ls hl => ?_)
  refine lv_aload_n hx hb dX0_leave_24 rfl (lv_at hl 2 rfl) ?_
  refine va_get (D := D) (ci := 0) (v := .int v_empty) (C := RX0) (T := TX0) (N := 4) hx hb hts (fun _ h => (List.mem_cons_of_mem _ (List.mem_append_right _ h))) hown hK hP 0 rfl rfl 3 (by decide) (hts (.fieldLink RX0 24 "FloatBoxes$Cutter" "empty" "Z") (List.mem_cons_of_mem _ (List.mem_append_left _ (List.mem_of_getElem? (i := 9) rfl)))) (fun _ h9 => h9) rfl dX0_leave_25 ?_
  refine lv_if_ne (tgt := 38) hx hb dX0_leave_28 (by decide) (fun c28 => ?_) (fun c28 => ?_)
  · replace hf := o_f c28 hf
    refine lv_aload_n hx hb dX0_leave_38 rfl (lv_at hl 2 rfl) ?_
    refine lv_iconst (v := 1) hx hb dX0_leave_39 (by decide) ?_
    refine va_put (D := D) (ci := 0) (v := .int 1) (ty := .boolean) (C := RX0) (T := TX0) (N := 4) hx hb hts (fun _ h => (List.mem_cons_of_mem _ (List.mem_append_right _ h))) tyX0 tyX0_ok nmX0 hown hK hP hD hS 0 rfl rfl 3 (by decide) (hts (.fieldLink RX0 24 "FloatBoxes$Cutter" "empty" "Z") (List.mem_cons_of_mem _ (List.mem_append_left _ (List.mem_of_getElem? (i := 9) rfl)))) (fun _ h9 => h9) rfl (by decide +kernel) (by decide) (by decide) (Nat.le_of_ble_eq_true rfl) dX0_leave_40 (fun H locs hP hD hS => ?_)
    replace hP : va_P D vwCl (ww_X0_leave cI cM a_this a_this_low a_this_high v_cut 1 v_low v_high) H := hP
    replace hD : va_D A (ww_X0_leave cI cM a_this a_this_low a_this_high v_cut 1 v_low v_high) := hD
    refine lv_goto (tgt := 89) hx hb dX0_leave_43 (by decide) ?_
    obtain ⟨q0, y0⟩ := o_rp hf
    obtain ⟨q1, y1⟩ := o_rp y0
    obtain ⟨q2, y2⟩ := o_rp y1
    have q3 := Option.some.inj y2
    subst q0 q1 q2 q3
    exact g_vret hx hb hr hlocks hP hD hK hS dX0_leave_89
  · replace hf := o_t c28 hf
    refine lv_iload hx hb dX0_leave_31 (lv_at hl 1 rfl) ?_
    refine lv_iload hx hb dX0_leave_33 (lv_at hl 0 rfl) ?_
    refine lv_icmp_le (tgt := 46) hx hb dX0_leave_35 (by decide) (fun c35 => ?_) (fun c35 => ?_)
    · replace hf := o_t c35 hf
      refine lv_iload hx hb dX0_leave_46 (lv_at hl 1 rfl) ?_
      refine lv_aload_n hx hb dX0_leave_48 rfl (lv_at hl 2 rfl) ?_
      refine va_get (D := D) (ci := 0) (v := .ref a_this_low) (C := RX0) (T := TX0) (N := 4) hx hb hts (fun _ h => (List.mem_cons_of_mem _ (List.mem_append_right _ h))) hown hK hP 0 rfl rfl 0 (by decide) (hts (.fieldLink RX0 9 "FloatBoxes$Cutter" "low" "[I") (List.mem_cons_of_mem _ (List.mem_append_left _ (List.mem_of_getElem? (i := 0) rfl)))) (fun _ h9 => h9) rfl dX0_leave_49 ?_
      refine lv_iload_n hx hb dX0_leave_52 rfl (lv_at hl 3 rfl) ?_
      obtain ⟨h53, hf⟩ := o_in_go hf
      refine va_iald hx hb hK hP 1 0 rfl rfl h53 dX0_leave_53 ?_
      refine lv_icmp_ne (tgt := 68) hx hb dX0_leave_54 (by decide) (fun c54 => ?_) (fun c54 => ?_)
      · replace hf := o_f c54 hf
        exact w_X0_leave_B68 C0 hA hK v_cut v_empty v_low v_high x1 t10 t22 H locs ls hf hP hD hS (lv_sub hl [2, 3, 1, 0] rfl)
      · replace hf := o_t c54 hf
        refine lv_iload hx hb dX0_leave_57 (lv_at hl 0 rfl) ?_
        refine lv_aload_n hx hb dX0_leave_59 rfl (lv_at hl 2 rfl) ?_
        refine va_get (D := D) (ci := 0) (v := .ref a_this_high) (C := RX0) (T := TX0) (N := 4) hx hb hts (fun _ h => (List.mem_cons_of_mem _ (List.mem_append_right _ h))) hown hK hP 0 rfl rfl 1 (by decide) (hts (.fieldLink RX0 15 "FloatBoxes$Cutter" "high" "[I") (List.mem_cons_of_mem _ (List.mem_append_left _ (List.mem_of_getElem? (i := 5) rfl)))) (fun _ h9 => h9) rfl dX0_leave_60 ?_
        refine lv_iload_n hx hb dX0_leave_63 rfl (lv_at hl 3 rfl) ?_
        obtain ⟨h64, hf⟩ := o_in_go hf
        refine va_iald hx hb hK hP 2 0 rfl rfl h64 dX0_leave_64 ?_
        refine lv_icmp_eq (tgt := 89) hx hb dX0_leave_65 (by decide) (fun c65 => ?_) (fun c65 => ?_)
        · replace hf := o_t c65 hf
          obtain ⟨q0, y0⟩ := o_rp hf
          obtain ⟨q1, y1⟩ := o_rp y0
          obtain ⟨q2, y2⟩ := o_rp y1
          have q3 := Option.some.inj y2
          subst q0 q1 q2 q3
          exact g_vret hx hb hr hlocks hP hD hK hS dX0_leave_89
        · replace hf := o_f c65 hf
          exact w_X0_leave_B68 C0 hA hK v_cut v_empty v_low v_high x1 t10 t22 H locs ls hf hP hD hS (lv_sub hl [2, 3, 1, 0] rfl)
    · replace hf := o_f c35 hf
      refine lv_aload_n hx hb dX0_leave_38 rfl (lv_at hl 2 rfl) ?_
      refine lv_iconst (v := 1) hx hb dX0_leave_39 (by decide) ?_
      refine va_put (D := D) (ci := 0) (v := .int 1) (ty := .boolean) (C := RX0) (T := TX0) (N := 4) hx hb hts (fun _ h => (List.mem_cons_of_mem _ (List.mem_append_right _ h))) tyX0 tyX0_ok nmX0 hown hK hP hD hS 0 rfl rfl 3 (by decide) (hts (.fieldLink RX0 24 "FloatBoxes$Cutter" "empty" "Z") (List.mem_cons_of_mem _ (List.mem_append_left _ (List.mem_of_getElem? (i := 9) rfl)))) (fun _ h9 => h9) rfl (by decide +kernel) (by decide) (by decide) (Nat.le_of_ble_eq_true rfl) dX0_leave_40 (fun H locs hP hD hS => ?_)
      replace hP : va_P D vwCl (ww_X0_leave cI cM a_this a_this_low a_this_high v_cut 1 v_low v_high) H := hP
      replace hD : va_D A (ww_X0_leave cI cM a_this a_this_low a_this_high v_cut 1 v_low v_high) := hD
      refine lv_goto (tgt := 89) hx hb dX0_leave_43 (by decide) ?_
      obtain ⟨q0, y0⟩ := o_rp hf
      obtain ⟨q1, y1⟩ := o_rp y0
      obtain ⟨q2, y2⟩ := o_rp y1
      have q3 := Option.some.inj y2
      subst q0 q1 q2 q3
      exact g_vret hx hb hr hlocks hP hD hK hS dX0_leave_89
set_option maxHeartbeats 4000000 in
set_option maxRecDepth 100000 in
theorem c_X0_leave (l : Launch) (D : va_G) (cI cM : ClassId) (a_this a_this_low a_this_high : Nat) (sz : Nat) (v_cut : Int32) (v_empty : Int32) (v_low : Nat → Int32) (v_high : Nat → Int32) {x1 : Int32} {x2 : Int32} {x3 : Int32} {o_cut : Int32} {o_empty : Int32} {o_low : Nat → Int32} {o_high : Nat → Int32} (hf : f_X0_leave v_cut v_empty v_low v_high x1 x2 x3 = some (o_cut, o_empty, o_low, o_high)) : Met l yX0_leave wsX0_leave rm_X0_leave (g_Pc D (g_tys cI cM) (ww_X0_leave cI cM a_this a_this_low a_this_high v_cut v_empty v_low v_high) sz [.ref a_this, .int x1, .int x2, .int x3]) (g_QV D (g_tys cI cM) (va_A (ww_X0_leave cI cM a_this a_this_low a_this_high v_cut v_empty v_low v_high) sz) (ww_X0_leave cI cM a_this a_this_low a_this_high o_cut o_empty o_low o_high)) 0 0 (va_A (ww_X0_leave cI cM a_this a_this_low a_this_high v_cut v_empty v_low v_high) sz) := by
  refine g_met (cc := cX0_leave) (maxL := 6) (ret := none) (Qc := fun D A => g_QV D (g_tys cI cM) A (ww_X0_leave cI cM a_this a_this_low a_this_high o_cut o_empty o_low o_high)) (by decide) rfl ?_
  intro p e s m below meth c A C0 hA hK hP hD
  have hl := lv_entry ([.ref a_this, .int x1, .int x2, .int x3]) (n := 6) (Nat.le_of_ble_eq_true rfl)
  rw [lg_entry_eq]
  generalize (lg_sl ([.ref a_this, .int x1, .int x2, .int x3]) ++ List.replicate (6 - (lg_sl ([.ref a_this, .int x1, .int x2, .int x3])).length) Slot.unset).toArray = ls at hl ⊢
  have hl : lv_has ls 6 [(0, .ref a_this), (1, .int x1), (2, .int x2), (3, .int x3)] := hl
  exact w_X0_leave_B0 C0 hA hK v_cut v_empty v_low v_high x1 x2 x3 s.heap [] ls hf hP hD va_S.rf (lv_sub hl [0, 1, 2, 3] rfl)
/-! FloatBoxes$Cutter.firstSum(III)I -/
abbrev rm_X0_firstSum : Room := { frames := 4, cells := 0, slots := 0, locals := 106 }
abbrev ww_X0_firstSum (cI cM : ClassId) (a_this a_this_low a_this_high : Nat) (v_cut : Int32) (v_empty : Int32) (v_low : Nat → Int32) (v_high : Nat → Int32) : va_W := [(a_this, .inr (0, [.ref a_this_low, .ref a_this_high, .int v_cut, .int v_empty])), (a_this_low, .inl (cI, 6, .inl v_low)), (a_this_high, .inl (cI, 6, .inl v_high))]
def f_X0_firstSum_B96 (N : Nat) (v_low : Nat → Int32) (v_high : Nat → Int32) (k47 : Int32 → Int32 → Int32 → Int32 → Int32 → Option (Int32)) (x2 : Int32) (x3 : Int32) (x4 : Int32) (x5 : Int32) (x6 : Int32) : Option (Int32) :=
  k47 x2 x3 x4 x5 (x6 + 1)
set_option maxHeartbeats 4000000 in
set_option maxRecDepth 100000 in
theorem w_X0_firstSum_B96 {p : Program} {l : Launch} {e : Env} {s : State} {m : MethodId} {args : Array Value} {below : List Frame} {meth : Method} {c : Code} {D : va_G} {cI cM : ClassId} {A : Nat → Prop} {a_this a_this_low a_this_high : Nat} {v_cut : Int32} {v_empty : Int32} {N : Nat} {v_low : Nat → Int32} {v_high : Nat → Int32} {r : Int32} (C0 : g_cx cX0_firstSum (some .int) 8 RX0 wsX0_firstSum p s m args meth c) (hA : ∀ q, s.heap.size ≤ q → A q) (hK : va_K D vwCl (g_tys cI cM) s) (k47 : Int32 → Int32 → Int32 → Int32 → Int32 → Option (Int32)) (hk47 : ∀ (x2 : Int32) (x3 : Int32) (x4 : Int32) (x5 : Int32) (x6 : Int32) (H : Heap) (locs : List Loc) (ls : Array Slot), k47 x2 x3 x4 x5 x6 = some r → va_P D vwCl (ww_X0_firstSum cI cM a_this a_this_low a_this_high v_cut v_empty v_low v_high) H → va_D A (ww_X0_firstSum cI cM a_this a_this_low a_this_high v_cut v_empty v_low v_high) → va_S A s.heap H locs → lv_has ls 8 [(2, .int x2), (3, .int x3), (4, .int x4), (5, .int x5), (6, .int x6)] → W p l e rm_X0_firstSum s m args below meth c H locs 0 0 (MQ below (g_QI D (g_tys cI cM) A (ww_X0_firstSum cI cM a_this a_this_low a_this_high v_cut v_empty v_low v_high) r) args s 0 0 A) (F0 m 47 ls [])) : ∀ (x2 : Int32) (x3 : Int32) (x4 : Int32) (x5 : Int32) (x6 : Int32) (H : Heap) (locs : List Loc) (ls : Array Slot), f_X0_firstSum_B96 N v_low v_high k47 x2 x3 x4 x5 x6 = some r → va_P D vwCl (ww_X0_firstSum cI cM a_this a_this_low a_this_high v_cut v_empty v_low v_high) H → va_D A (ww_X0_firstSum cI cM a_this a_this_low a_this_high v_cut v_empty v_low v_high) → va_S A s.heap H locs → lv_has ls 8 [(2, .int x2), (3, .int x3), (4, .int x4), (5, .int x5), (6, .int x6)] → W p l e rm_X0_firstSum s m args below meth c H locs 0 0 (MQ below (g_QI D (g_tys cI cM) A (ww_X0_firstSum cI cM a_this a_this_low a_this_high v_cut v_empty v_low v_high) r) args s 0 0 A) (F0 m 96 ls []) := by
  obtain ⟨hx, hb, hr, hml, hown, hts, hlocks⟩ := id C0
  intro x2 x3 x4 x5 x6 H locs ls hf hP hD hS hl
  unfold f_X0_firstSum_B96 at hf
  refine lv_iinc (v := x6 + 1) (lv' := [(6, .int (x6 + 1)), (2, .int x2), (3, .int x3), (4, .int x4), (5, .int x5)]) hx hb dX0_firstSum_96 hl (k := 4) rfl rfl (by decide) rfl (fun ls hl => ?_)
  refine lv_goto (tgt := 47) hx hb dX0_firstSum_99 (by decide) ?_
  exact hk47 x2 x3 x4 x5 (x6 + 1) H locs ls hf hP hD hS (lv_sub hl [1, 2, 3, 4, 0] rfl)
def f_X0_firstSum_C47 (N : Nat) (v_low : Nat → Int32) (v_high : Nat → Int32) (k47 : Int32 → Int32 → Int32 → Int32 → Int32 → Option (Int32)) (x2 : Int32) (x3 : Int32) (x4 : Int32) (x5 : Int32) (x6 : Int32) : Option (Int32) :=
  if 34 ≤ x6 then
    some x5
  else
    if (lg_cmp (x5.toInt64 - x4.toInt64) 1) ≤ 0 then
      some x5
    else
      o_b1 (f_X4_middle x4 x5) (fun (r70 : Int32) =>
      o_b1 (f_X1_sum r70 x2) (fun (r78 : Int32) =>
      if r78 < x3 then
        f_X0_firstSum_B96 N v_low v_high k47 x2 x3 r70 x5 x6
      else
        f_X0_firstSum_B96 N v_low v_high k47 x2 x3 x4 r70 x6))
def f_X0_firstSum_L47 (N : Nat) (v_low : Nat → Int32) (v_high : Nat → Int32) : Nat → Int32 → Int32 → Int32 → Int32 → Int32 → Option (Int32)
  | 0 => fun _ _ _ _ _ => none
  | n + 1 => f_X0_firstSum_C47 N v_low v_high (f_X0_firstSum_L47 N v_low v_high n)
set_option maxHeartbeats 4000000 in
set_option maxRecDepth 100000 in
theorem w_X0_firstSum_C47 {p : Program} {l : Launch} {e : Env} {s : State} {m : MethodId} {args : Array Value} {below : List Frame} {meth : Method} {c : Code} {D : va_G} {cI cM : ClassId} {A : Nat → Prop} {a_this a_this_low a_this_high : Nat} {v_cut : Int32} {v_empty : Int32} {N : Nat} {v_low : Nat → Int32} {v_high : Nat → Int32} {r : Int32} (C0 : g_cx cX0_firstSum (some .int) 8 RX0 wsX0_firstSum p s m args meth c) (hA : ∀ q, s.heap.size ≤ q → A q) (hK : va_K D vwCl (g_tys cI cM) s) (k47 : Int32 → Int32 → Int32 → Int32 → Int32 → Option (Int32)) (hk47 : ∀ (x2 : Int32) (x3 : Int32) (x4 : Int32) (x5 : Int32) (x6 : Int32) (H : Heap) (locs : List Loc) (ls : Array Slot), k47 x2 x3 x4 x5 x6 = some r → va_P D vwCl (ww_X0_firstSum cI cM a_this a_this_low a_this_high v_cut v_empty v_low v_high) H → va_D A (ww_X0_firstSum cI cM a_this a_this_low a_this_high v_cut v_empty v_low v_high) → va_S A s.heap H locs → lv_has ls 8 [(2, .int x2), (3, .int x3), (4, .int x4), (5, .int x5), (6, .int x6)] → W p l e rm_X0_firstSum s m args below meth c H locs 0 0 (MQ below (g_QI D (g_tys cI cM) A (ww_X0_firstSum cI cM a_this a_this_low a_this_high v_cut v_empty v_low v_high) r) args s 0 0 A) (F0 m 47 ls [])) : ∀ (x2 : Int32) (x3 : Int32) (x4 : Int32) (x5 : Int32) (x6 : Int32) (H : Heap) (locs : List Loc) (ls : Array Slot), f_X0_firstSum_C47 N v_low v_high k47 x2 x3 x4 x5 x6 = some r → va_P D vwCl (ww_X0_firstSum cI cM a_this a_this_low a_this_high v_cut v_empty v_low v_high) H → va_D A (ww_X0_firstSum cI cM a_this a_this_low a_this_high v_cut v_empty v_low v_high) → va_S A s.heap H locs → lv_has ls 8 [(2, .int x2), (3, .int x3), (4, .int x4), (5, .int x5), (6, .int x6)] → W p l e rm_X0_firstSum s m args below meth c H locs 0 0 (MQ below (g_QI D (g_tys cI cM) A (ww_X0_firstSum cI cM a_this a_this_low a_this_high v_cut v_empty v_low v_high) r) args s 0 0 A) (F0 m 47 ls []) := by
  obtain ⟨hx, hb, hr, hml, hown, hts, hlocks⟩ := id C0
  intro x2 x3 x4 x5 x6 H locs ls hf hP hD hS hl
  unfold f_X0_firstSum_C47 at hf
  refine lv_iload hx hb dX0_firstSum_47 (lv_at hl 4 rfl) ?_
  refine lv_bipush (v := 34) hx hb dX0_firstSum_49 (by decide) ?_
  refine lv_icmp_ge (tgt := 102) hx hb dX0_firstSum_51 (by decide) (fun c51 => ?_) (fun c51 => ?_)
  · replace hf := o_t c51 hf
    refine lv_iload hx hb dX0_firstSum_102 (lv_at hl 3 rfl) ?_
    have q0 := Option.some.inj hf
    subst q0
    exact g_iret hx hb hr hlocks hP hD hK hS dX0_firstSum_104
  · replace hf := o_f c51 hf
    refine lv_iload hx hb dX0_firstSum_54 (lv_at hl 3 rfl) ?_
    refine lv_i2l hx hb dX0_firstSum_56 rfl ?_
    refine lv_iload hx hb dX0_firstSum_57 (lv_at hl 2 rfl) ?_
    refine lv_i2l hx hb dX0_firstSum_59 rfl ?_
    refine lv_lsub hx hb dX0_firstSum_60 ?_
    refine lv_lconst (v := 1) hx hb dX0_firstSum_61 (by decide) ?_
    refine W.lcmp hx hb dX0_firstSum_62 ?_
    refine lv_if_le (tgt := 102) hx hb dX0_firstSum_63 (by decide) (fun c63 => ?_) (fun c63 => ?_)
    · replace hf := o_t c63 hf
      refine lv_iload hx hb dX0_firstSum_102 (lv_at hl 3 rfl) ?_
      have q0 := Option.some.inj hf
      subst q0
      exact g_iret hx hb hr hlocks hP hD hK hS dX0_firstSum_104
    · replace hf := o_f c63 hf
      refine lv_iload hx hb dX0_firstSum_66 (lv_at hl 2 rfl) ?_
      refine lv_iload hx hb dX0_firstSum_68 (lv_at hl 3 rfl) ?_
      obtain ⟨r70, hg70, hf⟩ := o_b1_go hf
      refine g_callSi (rest := []) ⟨hx, hb, hml, hown, hts⟩ (c_X4_middle l hg70) (va_cwS 2 hts gX0_firstSum_X4_middle rfl rfl rfl (by decide +kernel) ⟨Nat.le_of_ble_eq_true rfl, Nat.le_of_ble_eq_true rfl⟩) rfl hl.1 rfl (Nat.le_of_ble_eq_true rfl) dX0_firstSum_70 ?_
      refine lv_istore (lv' := [(7, .int r70), (2, .int x2), (3, .int x3), (4, .int x4), (5, .int x5), (6, .int x6)]) hx hb dX0_firstSum_73 hl (by decide) rfl (fun ls hl => ?_)
      refine lv_iload hx hb dX0_firstSum_75 (lv_at hl 0 rfl) ?_
      refine lv_iload_n hx hb dX0_firstSum_77 rfl (lv_at hl 1 rfl) ?_
      obtain ⟨r78, hg78, hf⟩ := o_b1_go hf
      refine g_callSi (rest := []) ⟨hx, hb, hml, hown, hts⟩ (c_X1_sum l hg78) (va_cwS 2 hts gX0_firstSum_X1_sum rfl rfl rfl (by decide +kernel) ⟨Nat.le_of_ble_eq_true rfl, Nat.le_of_ble_eq_true rfl⟩) rfl hl.1 rfl (Nat.le_of_ble_eq_true rfl) dX0_firstSum_78 ?_
      refine lv_iload_n hx hb dX0_firstSum_81 rfl (lv_at hl 2 rfl) ?_
      refine lv_icmp_lt (tgt := 92) hx hb dX0_firstSum_82 (by decide) (fun c82 => ?_) (fun c82 => ?_)
      · replace hf := o_t c82 hf
        refine lv_iload hx hb dX0_firstSum_92 (lv_at hl 0 rfl) ?_
        refine lv_istore (lv' := [(4, .int r70), (7, .int r70), (2, .int x2), (3, .int x3), (5, .int x5), (6, .int x6)]) hx hb dX0_firstSum_94 hl (by decide) rfl (fun ls hl => ?_)
        exact w_X0_firstSum_B96 C0 hA hK k47 hk47 x2 x3 r70 x5 x6 H locs ls hf hP hD hS (lv_sub hl [2, 3, 0, 4, 5] rfl)
      · replace hf := o_f c82 hf
        refine lv_iload hx hb dX0_firstSum_85 (lv_at hl 0 rfl) ?_
        refine lv_istore (lv' := [(5, .int r70), (7, .int r70), (2, .int x2), (3, .int x3), (4, .int x4), (6, .int x6)]) hx hb dX0_firstSum_87 hl (by decide) rfl (fun ls hl => ?_)
        refine lv_goto (tgt := 96) hx hb dX0_firstSum_89 (by decide) ?_
        exact w_X0_firstSum_B96 C0 hA hK k47 hk47 x2 x3 x4 r70 x6 H locs ls hf hP hD hS (lv_sub hl [2, 3, 4, 0, 5] rfl)
set_option maxHeartbeats 4000000 in
set_option maxRecDepth 100000 in
theorem w_X0_firstSum_L47 {p : Program} {l : Launch} {e : Env} {s : State} {m : MethodId} {args : Array Value} {below : List Frame} {meth : Method} {c : Code} {D : va_G} {cI cM : ClassId} {A : Nat → Prop} {a_this a_this_low a_this_high : Nat} {v_cut : Int32} {v_empty : Int32} {N : Nat} {v_low : Nat → Int32} {v_high : Nat → Int32} {r : Int32} (C0 : g_cx cX0_firstSum (some .int) 8 RX0 wsX0_firstSum p s m args meth c) (hA : ∀ q, s.heap.size ≤ q → A q) (hK : va_K D vwCl (g_tys cI cM) s) : ∀ n : Nat, ∀ (x2 : Int32) (x3 : Int32) (x4 : Int32) (x5 : Int32) (x6 : Int32) (H : Heap) (locs : List Loc) (ls : Array Slot), f_X0_firstSum_L47 N v_low v_high n x2 x3 x4 x5 x6 = some r → va_P D vwCl (ww_X0_firstSum cI cM a_this a_this_low a_this_high v_cut v_empty v_low v_high) H → va_D A (ww_X0_firstSum cI cM a_this a_this_low a_this_high v_cut v_empty v_low v_high) → va_S A s.heap H locs → lv_has ls 8 [(2, .int x2), (3, .int x3), (4, .int x4), (5, .int x5), (6, .int x6)] → W p l e rm_X0_firstSum s m args below meth c H locs 0 0 (MQ below (g_QI D (g_tys cI cM) A (ww_X0_firstSum cI cM a_this a_this_low a_this_high v_cut v_empty v_low v_high) r) args s 0 0 A) (F0 m 47 ls []) := by
  intro n
  induction n with
  | zero =>
    intro x2 x3 x4 x5 x6 H locs ls hf
    exact absurd hf (fun h => nomatch h)
  | succ n ih =>
    intro x2 x3 x4 x5 x6 H locs ls hf
    exact w_X0_firstSum_C47 C0 hA hK _ ih x2 x3 x4 x5 x6 H locs ls hf
def f_X0_firstSum (N : Nat) (v_low : Nat → Int32) (v_high : Nat → Int32) (x1 : Int32) (x2 : Int32) (x3 : Int32) : Option (Int32) :=
  o_in x1 6 (
  o_nm (v_low x1.toNatClampNeg) (fun (t6 : Int32) =>
  o_in x1 6 (
  o_nm (v_high x1.toNatClampNeg) (fun (t14 : Int32) =>
  o_b1 (f_X1_sum t6 x2) (fun (r19 : Int32) =>
  if r19 < x3 then
    o_b1 (f_X1_sum t14 x2) (fun (r32 : Int32) =>
    if x3 ≤ r32 then
      f_X0_firstSum_L47 N v_low v_high N x2 x3 t6 t14 0
    else
      some (t14 + 1))
  else
    some t6)))))
set_option maxHeartbeats 4000000 in
set_option maxRecDepth 100000 in
theorem w_X0_firstSum_B0 {p : Program} {l : Launch} {e : Env} {s : State} {m : MethodId} {args : Array Value} {below : List Frame} {meth : Method} {c : Code} {D : va_G} {cI cM : ClassId} {A : Nat → Prop} {a_this a_this_low a_this_high : Nat} {v_cut : Int32} {v_empty : Int32} {N : Nat} {v_low : Nat → Int32} {v_high : Nat → Int32} {r : Int32} (C0 : g_cx cX0_firstSum (some .int) 8 RX0 wsX0_firstSum p s m args meth c) (hA : ∀ q, s.heap.size ≤ q → A q) (hK : va_K D vwCl (g_tys cI cM) s) : ∀ (x1 : Int32) (x2 : Int32) (x3 : Int32) (H : Heap) (locs : List Loc) (ls : Array Slot), f_X0_firstSum N v_low v_high x1 x2 x3 = some r → va_P D vwCl (ww_X0_firstSum cI cM a_this a_this_low a_this_high v_cut v_empty v_low v_high) H → va_D A (ww_X0_firstSum cI cM a_this a_this_low a_this_high v_cut v_empty v_low v_high) → va_S A s.heap H locs → lv_has ls 8 [(0, .ref a_this), (1, .int x1), (2, .int x2), (3, .int x3)] → W p l e rm_X0_firstSum s m args below meth c H locs 0 0 (MQ below (g_QI D (g_tys cI cM) A (ww_X0_firstSum cI cM a_this a_this_low a_this_high v_cut v_empty v_low v_high) r) args s 0 0 A) (F0 m 0 ls []) := by
  obtain ⟨hx, hb, hr, hml, hown, hts, hlocks⟩ := id C0
  intro x1 x2 x3 H locs ls hf hP hD hS hl
  unfold f_X0_firstSum at hf
  refine lv_aload_n hx hb dX0_firstSum_0 rfl (lv_at hl 0 rfl) ?_
  refine va_get (D := D) (ci := 0) (v := .ref a_this_low) (C := RX0) (T := TX0) (N := 4) hx hb hts (fun _ h => (List.mem_cons_of_mem _ (List.mem_append_right _ h))) hown hK hP 0 rfl rfl 0 (by decide) (hts (.fieldLink RX0 9 "FloatBoxes$Cutter" "low" "[I") (List.mem_cons_of_mem _ (List.mem_append_left _ (List.mem_append_left _ (List.mem_of_getElem? (i := 0) rfl))))) (fun _ h9 => h9) rfl dX0_firstSum_1 ?_
  refine lv_iload_n hx hb dX0_firstSum_4 rfl (lv_at hl 1 rfl) ?_
  obtain ⟨h5, hf⟩ := o_in_go hf
  refine va_iald hx hb hK hP 1 0 rfl rfl h5 dX0_firstSum_5 ?_
  refine lv_topi (fun t6 et6 => ?_)
  replace hf := o_nm_go et6 hf
  refine lv_istore (lv' := [(4, .int t6), (0, .ref a_this), (1, .int x1), (2, .int x2), (3, .int x3)]) hx hb dX0_firstSum_6 hl (by decide) rfl (fun ls hl => ?_)
  refine lv_aload_n hx hb dX0_firstSum_8 rfl (lv_at hl 1 rfl) ?_
  refine va_get (D := D) (ci := 0) (v := .ref a_this_high) (C := RX0) (T := TX0) (N := 4) hx hb hts (fun _ h => (List.mem_cons_of_mem _ (List.mem_append_right _ h))) hown hK hP 0 rfl rfl 1 (by decide) (hts (.fieldLink RX0 15 "FloatBoxes$Cutter" "high" "[I") (List.mem_cons_of_mem _ (List.mem_append_left _ (List.mem_append_left _ (List.mem_of_getElem? (i := 1) rfl))))) (fun _ h9 => h9) rfl dX0_firstSum_9 ?_
  refine lv_iload_n hx hb dX0_firstSum_12 rfl (lv_at hl 2 rfl) ?_
  obtain ⟨h13, hf⟩ := o_in_go hf
  refine va_iald hx hb hK hP 2 0 rfl rfl h13 dX0_firstSum_13 ?_
  refine lv_topi (fun t14 et14 => ?_)
  replace hf := o_nm_go et14 hf
  refine lv_istore (lv' := [(5, .int t14), (4, .int t6), (0, .ref a_this), (1, .int x1), (2, .int x2), (3, .int x3)]) hx hb dX0_firstSum_14 hl (by decide) rfl (fun ls hl => ?_)
  refine lv_iload hx hb dX0_firstSum_16 (lv_at hl 1 rfl) ?_
  refine lv_iload_n hx hb dX0_firstSum_18 rfl (lv_at hl 4 rfl) ?_
  obtain ⟨r19, hg19, hf⟩ := o_b1_go hf
  refine g_callSi (rest := []) ⟨hx, hb, hml, hown, hts⟩ (c_X1_sum l hg19) (va_cwS 2 hts gX0_firstSum_X1_sum rfl rfl rfl (by decide +kernel) ⟨Nat.le_of_ble_eq_true rfl, Nat.le_of_ble_eq_true rfl⟩) rfl hl.1 rfl (Nat.le_of_ble_eq_true rfl) dX0_firstSum_19 ?_
  refine lv_iload_n hx hb dX0_firstSum_22 rfl (lv_at hl 5 rfl) ?_
  refine lv_icmp_lt (tgt := 29) hx hb dX0_firstSum_23 (by decide) (fun c23 => ?_) (fun c23 => ?_)
  · replace hf := o_t c23 hf
    refine lv_iload hx hb dX0_firstSum_29 (lv_at hl 0 rfl) ?_
    refine lv_iload_n hx hb dX0_firstSum_31 rfl (lv_at hl 4 rfl) ?_
    obtain ⟨r32, hg32, hf⟩ := o_b1_go hf
    refine g_callSi (rest := []) ⟨hx, hb, hml, hown, hts⟩ (c_X1_sum l hg32) (va_cwS 2 hts gX0_firstSum_X1_sum rfl rfl rfl (by decide +kernel) ⟨Nat.le_of_ble_eq_true rfl, Nat.le_of_ble_eq_true rfl⟩) rfl hl.1 rfl (Nat.le_of_ble_eq_true rfl) dX0_firstSum_32 ?_
    refine lv_iload_n hx hb dX0_firstSum_35 rfl (lv_at hl 5 rfl) ?_
    refine lv_icmp_ge (tgt := 44) hx hb dX0_firstSum_36 (by decide) (fun c36 => ?_) (fun c36 => ?_)
    · replace hf := o_t c36 hf
      refine lv_iconst (v := 0) hx hb dX0_firstSum_44 (by decide) ?_
      refine lv_istore (lv' := [(6, .int 0), (5, .int t14), (4, .int t6), (0, .ref a_this), (1, .int x1), (2, .int x2), (3, .int x3)]) hx hb dX0_firstSum_45 hl (by decide) rfl (fun ls hl => ?_)
      exact w_X0_firstSum_L47 C0 hA hK N x2 x3 t6 t14 0 H locs ls hf hP hD hS (lv_sub hl [5, 6, 2, 1, 0] rfl)
    · replace hf := o_f c36 hf
      refine lv_iload hx hb dX0_firstSum_39 (lv_at hl 0 rfl) ?_
      refine lv_iconst (v := 1) hx hb dX0_firstSum_41 (by decide) ?_
      refine lv_iadd hx hb dX0_firstSum_42 ?_
      have q0 := Option.some.inj hf
      subst q0
      exact g_iret hx hb hr hlocks hP hD hK hS dX0_firstSum_43
  · replace hf := o_f c23 hf
    refine lv_iload hx hb dX0_firstSum_26 (lv_at hl 1 rfl) ?_
    have q0 := Option.some.inj hf
    subst q0
    exact g_iret hx hb hr hlocks hP hD hK hS dX0_firstSum_28
set_option maxHeartbeats 4000000 in
set_option maxRecDepth 100000 in
theorem c_X0_firstSum (l : Launch) (D : va_G) (cI cM : ClassId) (a_this a_this_low a_this_high : Nat) (sz : Nat) (v_cut : Int32) (v_empty : Int32) (v_low : Nat → Int32) (v_high : Nat → Int32) {N : Nat} {x1 : Int32} {x2 : Int32} {x3 : Int32} {r : Int32} (hf : f_X0_firstSum N v_low v_high x1 x2 x3 = some r) : Met l yX0_firstSum wsX0_firstSum rm_X0_firstSum (g_Pc D (g_tys cI cM) (ww_X0_firstSum cI cM a_this a_this_low a_this_high v_cut v_empty v_low v_high) sz [.ref a_this, .int x1, .int x2, .int x3]) (g_QI D (g_tys cI cM) (va_A (ww_X0_firstSum cI cM a_this a_this_low a_this_high v_cut v_empty v_low v_high) sz) (ww_X0_firstSum cI cM a_this a_this_low a_this_high v_cut v_empty v_low v_high) r) 0 0 (va_A (ww_X0_firstSum cI cM a_this a_this_low a_this_high v_cut v_empty v_low v_high) sz) := by
  refine g_met (cc := cX0_firstSum) (maxL := 8) (ret := (some .int)) (Qc := fun D A => g_QI D (g_tys cI cM) A (ww_X0_firstSum cI cM a_this a_this_low a_this_high v_cut v_empty v_low v_high) r) (by decide) rfl ?_
  intro p e s m below meth c A C0 hA hK hP hD
  have hl := lv_entry ([.ref a_this, .int x1, .int x2, .int x3]) (n := 8) (Nat.le_of_ble_eq_true rfl)
  rw [lg_entry_eq]
  generalize (lg_sl ([.ref a_this, .int x1, .int x2, .int x3]) ++ List.replicate (8 - (lg_sl ([.ref a_this, .int x1, .int x2, .int x3])).length) Slot.unset).toArray = ls at hl ⊢
  have hl : lv_has ls 8 [(0, .ref a_this), (1, .int x1), (2, .int x2), (3, .int x3)] := hl
  exact w_X0_firstSum_B0 C0 hA hK x1 x2 x3 s.heap [] ls hf hP hD va_S.rf (lv_sub hl [0, 1, 2, 3] rfl)
/-! FloatBoxes$Cutter.cutSum(III)V -/
abbrev rm_X0_cutSum : Room := { frames := 5, cells := 0, slots := 0, locals := 133 }
abbrev ww_X0_cutSum (cI cM : ClassId) (a_this a_this_low a_this_high : Nat) (v_cut : Int32) (v_empty : Int32) (v_low : Nat → Int32) (v_high : Nat → Int32) : va_W := [(a_this, .inr (0, [.ref a_this_low, .ref a_this_high, .int v_cut, .int v_empty])), (a_this_low, .inl (cI, 6, .inl v_low)), (a_this_high, .inl (cI, 6, .inl v_high))]
def f_X0_cutSum_B85 (N : Nat) (v_cut : Int32) (v_empty : Int32) (v_low : Nat → Int32) (v_high : Nat → Int32) (x1 : Int32) (x2 : Int32) (x3 : Int32) : Option (Int32 × Int32 × (Nat → Int32) × (Nat → Int32)) :=
  if v_empty = 0 then
    o_in x1 6 (
    o_in x3 6 (
    o_b1 (f_X0_firstSum N v_low v_high x2 (v_high x1.toNatClampNeg) (v_low x3.toNatClampNeg)) (fun (r108 : Int32) =>
    o_in x1 6 (
    o_in x3 6 (
    o_b1 (f_X0_firstSum N v_low v_high x2 (v_low x1.toNatClampNeg) ((v_high x3.toNatClampNeg) + 1)) (fun (r127 : Int32) =>
    o_b4 (f_X0_leave v_cut v_empty v_low v_high x2 r108 (r127 - 1)) (fun (v_cut_132 : Int32) (v_empty_132 : Int32) (v_low_132 : Nat → Int32) (v_high_132 : Nat → Int32) =>
    some (v_cut_132, v_empty_132, v_low_132, v_high_132))))))))
  else
    some (v_cut, v_empty, v_low, v_high)
set_option maxHeartbeats 4000000 in
set_option maxRecDepth 100000 in
theorem w_X0_cutSum_B85 {p : Program} {l : Launch} {e : Env} {s : State} {m : MethodId} {args : Array Value} {below : List Frame} {meth : Method} {c : Code} {D : va_G} {cI cM : ClassId} {A : Nat → Prop} {a_this a_this_low a_this_high : Nat} {N : Nat} {o_cut : Int32} {o_empty : Int32} {o_low : Nat → Int32} {o_high : Nat → Int32} (C0 : g_cx cX0_cutSum none 4 RX0 wsX0_cutSum p s m args meth c) (hA : ∀ q, s.heap.size ≤ q → A q) (hK : va_K D vwCl (g_tys cI cM) s) : ∀ (v_cut : Int32) (v_empty : Int32) (v_low : Nat → Int32) (v_high : Nat → Int32) (x1 : Int32) (x2 : Int32) (x3 : Int32) (H : Heap) (locs : List Loc) (ls : Array Slot), f_X0_cutSum_B85 N v_cut v_empty v_low v_high x1 x2 x3 = some (o_cut, o_empty, o_low, o_high) → va_P D vwCl (ww_X0_cutSum cI cM a_this a_this_low a_this_high v_cut v_empty v_low v_high) H → va_D A (ww_X0_cutSum cI cM a_this a_this_low a_this_high v_cut v_empty v_low v_high) → va_S A s.heap H locs → lv_has ls 4 [(0, .ref a_this), (1, .int x1), (2, .int x2), (3, .int x3)] → W p l e rm_X0_cutSum s m args below meth c H locs 0 0 (MQ below (g_QV D (g_tys cI cM) A (ww_X0_cutSum cI cM a_this a_this_low a_this_high o_cut o_empty o_low o_high)) args s 0 0 A) (F0 m 85 ls []) := by
  obtain ⟨hx, hb, hr, hml, hown, hts, hlocks⟩ := id C0
  intro v_cut v_empty v_low v_high x1 x2 x3 H locs ls hf hP hD hS hl
  unfold f_X0_cutSum_B85 at hf
  refine lv_aload_n hx hb dX0_cutSum_85 rfl (lv_at hl 0 rfl) ?_
  refine va_get (D := D) (ci := 0) (v := .int v_empty) (C := RX0) (T := TX0) (N := 4) hx hb hts (fun _ h => (List.mem_cons_of_mem _ (List.mem_append_right _ h))) hown hK hP 0 rfl rfl 3 (by decide) (hts (.fieldLink RX0 24 "FloatBoxes$Cutter" "empty" "Z") (List.mem_cons_of_mem _ (List.mem_append_left _ (List.mem_append_left _ (List.mem_of_getElem? (i := 2) rfl))))) (fun _ h9 => h9) rfl dX0_cutSum_86 ?_
  refine lv_if_ne (tgt := 135) hx hb dX0_cutSum_89 (by decide) (fun c89 => ?_) (fun c89 => ?_)
  · replace hf := o_f c89 hf
    obtain ⟨q0, y0⟩ := o_rp hf
    obtain ⟨q1, y1⟩ := o_rp y0
    obtain ⟨q2, y2⟩ := o_rp y1
    have q3 := Option.some.inj y2
    subst q0 q1 q2 q3
    exact g_vret hx hb hr hlocks hP hD hK hS dX0_cutSum_135
  · replace hf := o_t c89 hf
    refine lv_aload_n hx hb dX0_cutSum_92 rfl (lv_at hl 0 rfl) ?_
    refine lv_iload_n hx hb dX0_cutSum_93 rfl (lv_at hl 2 rfl) ?_
    refine lv_aload_n hx hb dX0_cutSum_94 rfl (lv_at hl 0 rfl) ?_
    refine lv_iload_n hx hb dX0_cutSum_95 rfl (lv_at hl 2 rfl) ?_
    refine lv_aload_n hx hb dX0_cutSum_96 rfl (lv_at hl 0 rfl) ?_
    refine va_get (D := D) (ci := 0) (v := .ref a_this_high) (C := RX0) (T := TX0) (N := 4) hx hb hts (fun _ h => (List.mem_cons_of_mem _ (List.mem_append_right _ h))) hown hK hP 0 rfl rfl 1 (by decide) (hts (.fieldLink RX0 15 "FloatBoxes$Cutter" "high" "[I") (List.mem_cons_of_mem _ (List.mem_append_left _ (List.mem_append_left _ (List.mem_of_getElem? (i := 1) rfl))))) (fun _ h9 => h9) rfl dX0_cutSum_97 ?_
    refine lv_iload_n hx hb dX0_cutSum_100 rfl (lv_at hl 1 rfl) ?_
    obtain ⟨h101, hf⟩ := o_in_go hf
    refine va_iald hx hb hK hP 2 0 rfl rfl h101 dX0_cutSum_101 ?_
    refine lv_aload_n hx hb dX0_cutSum_102 rfl (lv_at hl 0 rfl) ?_
    refine va_get (D := D) (ci := 0) (v := .ref a_this_low) (C := RX0) (T := TX0) (N := 4) hx hb hts (fun _ h => (List.mem_cons_of_mem _ (List.mem_append_right _ h))) hown hK hP 0 rfl rfl 0 (by decide) (hts (.fieldLink RX0 9 "FloatBoxes$Cutter" "low" "[I") (List.mem_cons_of_mem _ (List.mem_append_left _ (List.mem_append_left _ (List.mem_of_getElem? (i := 0) rfl))))) (fun _ h9 => h9) rfl dX0_cutSum_103 ?_
    refine lv_iload_n hx hb dX0_cutSum_106 rfl (lv_at hl 3 rfl) ?_
    obtain ⟨h107, hf⟩ := o_in_go hf
    refine va_iald hx hb hK hP 1 0 rfl rfl h107 dX0_cutSum_107 ?_
    obtain ⟨r108, hg108, hf⟩ := o_b1_go hf
    refine g_callVi (wn := (ww_X0_cutSum cI cM a_this a_this_low a_this_high v_cut v_empty v_low v_high)) (rest := [.int x2, .ref a_this]) ⟨hx, hb, hml, hown, hts⟩ (c_X0_firstSum l D cI cM a_this a_this_low a_this_high H.size v_cut v_empty v_low v_high hg108) (cwV 3 hts gX0_cutSum_X0_firstSum rfl rfl rfl (by decide +kernel) ⟨Nat.le_of_ble_eq_true rfl, Nat.le_of_ble_eq_true rfl⟩) hK hP hD hS hA [0, 1, 2] [] [0, 1, 2] rfl rfl rfl rfl rfl rfl (by decide) rfl rfl rfl hl.1 rfl (Nat.le_of_ble_eq_true rfl) dX0_cutSum_108 (fun H locs hP hD hS => ?_)
    refine lv_aload_n hx hb dX0_cutSum_111 rfl (lv_at hl 0 rfl) ?_
    refine lv_iload_n hx hb dX0_cutSum_112 rfl (lv_at hl 2 rfl) ?_
    refine lv_aload_n hx hb dX0_cutSum_113 rfl (lv_at hl 0 rfl) ?_
    refine va_get (D := D) (ci := 0) (v := .ref a_this_low) (C := RX0) (T := TX0) (N := 4) hx hb hts (fun _ h => (List.mem_cons_of_mem _ (List.mem_append_right _ h))) hown hK hP 0 rfl rfl 0 (by decide) (hts (.fieldLink RX0 9 "FloatBoxes$Cutter" "low" "[I") (List.mem_cons_of_mem _ (List.mem_append_left _ (List.mem_append_left _ (List.mem_of_getElem? (i := 0) rfl))))) (fun _ h9 => h9) rfl dX0_cutSum_114 ?_
    refine lv_iload_n hx hb dX0_cutSum_117 rfl (lv_at hl 1 rfl) ?_
    obtain ⟨h118, hf⟩ := o_in_go hf
    refine va_iald hx hb hK hP 1 0 rfl rfl h118 dX0_cutSum_118 ?_
    refine lv_aload_n hx hb dX0_cutSum_119 rfl (lv_at hl 0 rfl) ?_
    refine va_get (D := D) (ci := 0) (v := .ref a_this_high) (C := RX0) (T := TX0) (N := 4) hx hb hts (fun _ h => (List.mem_cons_of_mem _ (List.mem_append_right _ h))) hown hK hP 0 rfl rfl 1 (by decide) (hts (.fieldLink RX0 15 "FloatBoxes$Cutter" "high" "[I") (List.mem_cons_of_mem _ (List.mem_append_left _ (List.mem_append_left _ (List.mem_of_getElem? (i := 1) rfl))))) (fun _ h9 => h9) rfl dX0_cutSum_120 ?_
    refine lv_iload_n hx hb dX0_cutSum_123 rfl (lv_at hl 3 rfl) ?_
    obtain ⟨h124, hf⟩ := o_in_go hf
    refine va_iald hx hb hK hP 2 0 rfl rfl h124 dX0_cutSum_124 ?_
    refine lv_iconst (v := 1) hx hb dX0_cutSum_125 (by decide) ?_
    refine lv_iadd hx hb dX0_cutSum_126 ?_
    obtain ⟨r127, hg127, hf⟩ := o_b1_go hf
    refine g_callVi (wn := (ww_X0_cutSum cI cM a_this a_this_low a_this_high v_cut v_empty v_low v_high)) (rest := [.int r108, .int x2, .ref a_this]) ⟨hx, hb, hml, hown, hts⟩ (c_X0_firstSum l D cI cM a_this a_this_low a_this_high H.size v_cut v_empty v_low v_high hg127) (cwV 3 hts gX0_cutSum_X0_firstSum rfl rfl rfl (by decide +kernel) ⟨Nat.le_of_ble_eq_true rfl, Nat.le_of_ble_eq_true rfl⟩) hK hP hD hS hA [0, 1, 2] [] [0, 1, 2] rfl rfl rfl rfl rfl rfl (by decide) rfl rfl rfl hl.1 rfl (Nat.le_of_ble_eq_true rfl) dX0_cutSum_127 (fun H locs hP hD hS => ?_)
    refine lv_iconst (v := 1) hx hb dX0_cutSum_130 (by decide) ?_
    refine lv_isub hx hb dX0_cutSum_131 ?_
    obtain ⟨v_cut_132, v_empty_132, v_low_132, v_high_132, hg132, hf⟩ := o_b4_go hf
    refine g_callVv (wn := (ww_X0_cutSum cI cM a_this a_this_low a_this_high v_cut_132 v_empty_132 v_low_132 v_high_132)) (rest := []) ⟨hx, hb, hml, hown, hts⟩ (c_X0_leave l D cI cM a_this a_this_low a_this_high H.size v_cut v_empty v_low v_high hg132) (cwV 3 hts gX0_cutSum_X0_leave rfl rfl rfl (by decide +kernel) ⟨Nat.le_of_ble_eq_true rfl, Nat.le_of_ble_eq_true rfl⟩) hK hP hD hS hA [0, 1, 2] [] [0, 1, 2] rfl rfl rfl rfl rfl rfl (by decide) rfl rfl rfl hl.1 rfl (Nat.le_of_ble_eq_true rfl) dX0_cutSum_132 (fun H locs hP hD hS => ?_)
    obtain ⟨q0, y0⟩ := o_rp hf
    obtain ⟨q1, y1⟩ := o_rp y0
    obtain ⟨q2, y2⟩ := o_rp y1
    have q3 := Option.some.inj y2
    subst q0 q1 q2 q3
    exact g_vret hx hb hr hlocks hP hD hK hS dX0_cutSum_135
def f_X0_cutSum (N : Nat) (v_cut : Int32) (v_empty : Int32) (v_low : Nat → Int32) (v_high : Nat → Int32) (x1 : Int32) (x2 : Int32) (x3 : Int32) : Option (Int32 × Int32 × (Nat → Int32) × (Nat → Int32)) :=
  o_in x1 6 (
  o_in x2 6 (
  o_b1 (f_X1_sum (v_low x1.toNatClampNeg) (v_low x2.toNatClampNeg)) (fun (r14 : Int32) =>
  o_in x1 6 (
  o_in x2 6 (
  o_b1 (f_X1_sum (v_high x1.toNatClampNeg) (v_high x2.toNatClampNeg)) (fun (r29 : Int32) =>
  o_b4 (f_X0_leave v_cut v_empty v_low v_high x3 r14 r29) (fun (v_cut_32 : Int32) (v_empty_32 : Int32) (v_low_32 : Nat → Int32) (v_high_32 : Nat → Int32) =>
  if v_empty_32 = 0 then
    o_in x2 6 (
    o_in x3 6 (
    o_b1 (f_X0_firstSum N v_low_32 v_high_32 x1 (v_high_32 x2.toNatClampNeg) (v_low_32 x3.toNatClampNeg)) (fun (r58 : Int32) =>
    o_in x2 6 (
    o_in x3 6 (
    o_b1 (f_X0_firstSum N v_low_32 v_high_32 x1 (v_low_32 x2.toNatClampNeg) ((v_high_32 x3.toNatClampNeg) + 1)) (fun (r77 : Int32) =>
    o_b4 (f_X0_leave v_cut_32 v_empty_32 v_low_32 v_high_32 x1 r58 (r77 - 1)) (fun (v_cut_82 : Int32) (v_empty_82 : Int32) (v_low_82 : Nat → Int32) (v_high_82 : Nat → Int32) =>
    f_X0_cutSum_B85 N v_cut_82 v_empty_82 v_low_82 v_high_82 x1 x2 x3)))))))
  else
    f_X0_cutSum_B85 N v_cut_32 v_empty_32 v_low_32 v_high_32 x1 x2 x3)))))))
set_option maxHeartbeats 4000000 in
set_option maxRecDepth 100000 in
theorem w_X0_cutSum_B0 {p : Program} {l : Launch} {e : Env} {s : State} {m : MethodId} {args : Array Value} {below : List Frame} {meth : Method} {c : Code} {D : va_G} {cI cM : ClassId} {A : Nat → Prop} {a_this a_this_low a_this_high : Nat} {N : Nat} {o_cut : Int32} {o_empty : Int32} {o_low : Nat → Int32} {o_high : Nat → Int32} (C0 : g_cx cX0_cutSum none 4 RX0 wsX0_cutSum p s m args meth c) (hA : ∀ q, s.heap.size ≤ q → A q) (hK : va_K D vwCl (g_tys cI cM) s) : ∀ (v_cut : Int32) (v_empty : Int32) (v_low : Nat → Int32) (v_high : Nat → Int32) (x1 : Int32) (x2 : Int32) (x3 : Int32) (H : Heap) (locs : List Loc) (ls : Array Slot), f_X0_cutSum N v_cut v_empty v_low v_high x1 x2 x3 = some (o_cut, o_empty, o_low, o_high) → va_P D vwCl (ww_X0_cutSum cI cM a_this a_this_low a_this_high v_cut v_empty v_low v_high) H → va_D A (ww_X0_cutSum cI cM a_this a_this_low a_this_high v_cut v_empty v_low v_high) → va_S A s.heap H locs → lv_has ls 4 [(0, .ref a_this), (1, .int x1), (2, .int x2), (3, .int x3)] → W p l e rm_X0_cutSum s m args below meth c H locs 0 0 (MQ below (g_QV D (g_tys cI cM) A (ww_X0_cutSum cI cM a_this a_this_low a_this_high o_cut o_empty o_low o_high)) args s 0 0 A) (F0 m 0 ls []) := by
  obtain ⟨hx, hb, hr, hml, hown, hts, hlocks⟩ := id C0
  intro v_cut v_empty v_low v_high x1 x2 x3 H locs ls hf hP hD hS hl
  unfold f_X0_cutSum at hf
  refine lv_aload_n hx hb dX0_cutSum_0 rfl (lv_at hl 0 rfl) ?_
  refine lv_iload_n hx hb dX0_cutSum_1 rfl (lv_at hl 3 rfl) ?_
  refine lv_aload_n hx hb dX0_cutSum_2 rfl (lv_at hl 0 rfl) ?_
  refine va_get (D := D) (ci := 0) (v := .ref a_this_low) (C := RX0) (T := TX0) (N := 4) hx hb hts (fun _ h => (List.mem_cons_of_mem _ (List.mem_append_right _ h))) hown hK hP 0 rfl rfl 0 (by decide) (hts (.fieldLink RX0 9 "FloatBoxes$Cutter" "low" "[I") (List.mem_cons_of_mem _ (List.mem_append_left _ (List.mem_append_left _ (List.mem_of_getElem? (i := 0) rfl))))) (fun _ h9 => h9) rfl dX0_cutSum_3 ?_
  refine lv_iload_n hx hb dX0_cutSum_6 rfl (lv_at hl 1 rfl) ?_
  obtain ⟨h7, hf⟩ := o_in_go hf
  refine va_iald hx hb hK hP 1 0 rfl rfl h7 dX0_cutSum_7 ?_
  refine lv_aload_n hx hb dX0_cutSum_8 rfl (lv_at hl 0 rfl) ?_
  refine va_get (D := D) (ci := 0) (v := .ref a_this_low) (C := RX0) (T := TX0) (N := 4) hx hb hts (fun _ h => (List.mem_cons_of_mem _ (List.mem_append_right _ h))) hown hK hP 0 rfl rfl 0 (by decide) (hts (.fieldLink RX0 9 "FloatBoxes$Cutter" "low" "[I") (List.mem_cons_of_mem _ (List.mem_append_left _ (List.mem_append_left _ (List.mem_of_getElem? (i := 0) rfl))))) (fun _ h9 => h9) rfl dX0_cutSum_9 ?_
  refine lv_iload_n hx hb dX0_cutSum_12 rfl (lv_at hl 2 rfl) ?_
  obtain ⟨h13, hf⟩ := o_in_go hf
  refine va_iald hx hb hK hP 1 0 rfl rfl h13 dX0_cutSum_13 ?_
  obtain ⟨r14, hg14, hf⟩ := o_b1_go hf
  refine g_callSi (rest := [.int x3, .ref a_this]) ⟨hx, hb, hml, hown, hts⟩ (c_X1_sum l hg14) (va_cwS 2 hts gX0_cutSum_X1_sum rfl rfl rfl (by decide +kernel) ⟨Nat.le_of_ble_eq_true rfl, Nat.le_of_ble_eq_true rfl⟩) rfl hl.1 rfl (Nat.le_of_ble_eq_true rfl) dX0_cutSum_14 ?_
  refine lv_aload_n hx hb dX0_cutSum_17 rfl (lv_at hl 0 rfl) ?_
  refine va_get (D := D) (ci := 0) (v := .ref a_this_high) (C := RX0) (T := TX0) (N := 4) hx hb hts (fun _ h => (List.mem_cons_of_mem _ (List.mem_append_right _ h))) hown hK hP 0 rfl rfl 1 (by decide) (hts (.fieldLink RX0 15 "FloatBoxes$Cutter" "high" "[I") (List.mem_cons_of_mem _ (List.mem_append_left _ (List.mem_append_left _ (List.mem_of_getElem? (i := 1) rfl))))) (fun _ h9 => h9) rfl dX0_cutSum_18 ?_
  refine lv_iload_n hx hb dX0_cutSum_21 rfl (lv_at hl 1 rfl) ?_
  obtain ⟨h22, hf⟩ := o_in_go hf
  refine va_iald hx hb hK hP 2 0 rfl rfl h22 dX0_cutSum_22 ?_
  refine lv_aload_n hx hb dX0_cutSum_23 rfl (lv_at hl 0 rfl) ?_
  refine va_get (D := D) (ci := 0) (v := .ref a_this_high) (C := RX0) (T := TX0) (N := 4) hx hb hts (fun _ h => (List.mem_cons_of_mem _ (List.mem_append_right _ h))) hown hK hP 0 rfl rfl 1 (by decide) (hts (.fieldLink RX0 15 "FloatBoxes$Cutter" "high" "[I") (List.mem_cons_of_mem _ (List.mem_append_left _ (List.mem_append_left _ (List.mem_of_getElem? (i := 1) rfl))))) (fun _ h9 => h9) rfl dX0_cutSum_24 ?_
  refine lv_iload_n hx hb dX0_cutSum_27 rfl (lv_at hl 2 rfl) ?_
  obtain ⟨h28, hf⟩ := o_in_go hf
  refine va_iald hx hb hK hP 2 0 rfl rfl h28 dX0_cutSum_28 ?_
  obtain ⟨r29, hg29, hf⟩ := o_b1_go hf
  refine g_callSi (rest := [.int r14, .int x3, .ref a_this]) ⟨hx, hb, hml, hown, hts⟩ (c_X1_sum l hg29) (va_cwS 2 hts gX0_cutSum_X1_sum rfl rfl rfl (by decide +kernel) ⟨Nat.le_of_ble_eq_true rfl, Nat.le_of_ble_eq_true rfl⟩) rfl hl.1 rfl (Nat.le_of_ble_eq_true rfl) dX0_cutSum_29 ?_
  obtain ⟨v_cut_32, v_empty_32, v_low_32, v_high_32, hg32, hf⟩ := o_b4_go hf
  refine g_callVv (wn := (ww_X0_cutSum cI cM a_this a_this_low a_this_high v_cut_32 v_empty_32 v_low_32 v_high_32)) (rest := []) ⟨hx, hb, hml, hown, hts⟩ (c_X0_leave l D cI cM a_this a_this_low a_this_high H.size v_cut v_empty v_low v_high hg32) (cwV 3 hts gX0_cutSum_X0_leave rfl rfl rfl (by decide +kernel) ⟨Nat.le_of_ble_eq_true rfl, Nat.le_of_ble_eq_true rfl⟩) hK hP hD hS hA [0, 1, 2] [] [0, 1, 2] rfl rfl rfl rfl rfl rfl (by decide) rfl rfl rfl hl.1 rfl (Nat.le_of_ble_eq_true rfl) dX0_cutSum_32 (fun H locs hP hD hS => ?_)
  refine lv_aload_n hx hb dX0_cutSum_35 rfl (lv_at hl 0 rfl) ?_
  refine va_get (D := D) (ci := 0) (v := .int v_empty_32) (C := RX0) (T := TX0) (N := 4) hx hb hts (fun _ h => (List.mem_cons_of_mem _ (List.mem_append_right _ h))) hown hK hP 0 rfl rfl 3 (by decide) (hts (.fieldLink RX0 24 "FloatBoxes$Cutter" "empty" "Z") (List.mem_cons_of_mem _ (List.mem_append_left _ (List.mem_append_left _ (List.mem_of_getElem? (i := 2) rfl))))) (fun _ h9 => h9) rfl dX0_cutSum_36 ?_
  refine lv_if_ne (tgt := 85) hx hb dX0_cutSum_39 (by decide) (fun c39 => ?_) (fun c39 => ?_)
  · replace hf := o_f c39 hf
    exact w_X0_cutSum_B85 C0 hA hK v_cut_32 v_empty_32 v_low_32 v_high_32 x1 x2 x3 H locs ls hf hP hD hS (lv_sub hl [0, 1, 2, 3] rfl)
  · replace hf := o_t c39 hf
    refine lv_aload_n hx hb dX0_cutSum_42 rfl (lv_at hl 0 rfl) ?_
    refine lv_iload_n hx hb dX0_cutSum_43 rfl (lv_at hl 1 rfl) ?_
    refine lv_aload_n hx hb dX0_cutSum_44 rfl (lv_at hl 0 rfl) ?_
    refine lv_iload_n hx hb dX0_cutSum_45 rfl (lv_at hl 1 rfl) ?_
    refine lv_aload_n hx hb dX0_cutSum_46 rfl (lv_at hl 0 rfl) ?_
    refine va_get (D := D) (ci := 0) (v := .ref a_this_high) (C := RX0) (T := TX0) (N := 4) hx hb hts (fun _ h => (List.mem_cons_of_mem _ (List.mem_append_right _ h))) hown hK hP 0 rfl rfl 1 (by decide) (hts (.fieldLink RX0 15 "FloatBoxes$Cutter" "high" "[I") (List.mem_cons_of_mem _ (List.mem_append_left _ (List.mem_append_left _ (List.mem_of_getElem? (i := 1) rfl))))) (fun _ h9 => h9) rfl dX0_cutSum_47 ?_
    refine lv_iload_n hx hb dX0_cutSum_50 rfl (lv_at hl 2 rfl) ?_
    obtain ⟨h51, hf⟩ := o_in_go hf
    refine va_iald hx hb hK hP 2 0 rfl rfl h51 dX0_cutSum_51 ?_
    refine lv_aload_n hx hb dX0_cutSum_52 rfl (lv_at hl 0 rfl) ?_
    refine va_get (D := D) (ci := 0) (v := .ref a_this_low) (C := RX0) (T := TX0) (N := 4) hx hb hts (fun _ h => (List.mem_cons_of_mem _ (List.mem_append_right _ h))) hown hK hP 0 rfl rfl 0 (by decide) (hts (.fieldLink RX0 9 "FloatBoxes$Cutter" "low" "[I") (List.mem_cons_of_mem _ (List.mem_append_left _ (List.mem_append_left _ (List.mem_of_getElem? (i := 0) rfl))))) (fun _ h9 => h9) rfl dX0_cutSum_53 ?_
    refine lv_iload_n hx hb dX0_cutSum_56 rfl (lv_at hl 3 rfl) ?_
    obtain ⟨h57, hf⟩ := o_in_go hf
    refine va_iald hx hb hK hP 1 0 rfl rfl h57 dX0_cutSum_57 ?_
    obtain ⟨r58, hg58, hf⟩ := o_b1_go hf
    refine g_callVi (wn := (ww_X0_cutSum cI cM a_this a_this_low a_this_high v_cut_32 v_empty_32 v_low_32 v_high_32)) (rest := [.int x1, .ref a_this]) ⟨hx, hb, hml, hown, hts⟩ (c_X0_firstSum l D cI cM a_this a_this_low a_this_high H.size v_cut_32 v_empty_32 v_low_32 v_high_32 hg58) (cwV 3 hts gX0_cutSum_X0_firstSum rfl rfl rfl (by decide +kernel) ⟨Nat.le_of_ble_eq_true rfl, Nat.le_of_ble_eq_true rfl⟩) hK hP hD hS hA [0, 1, 2] [] [0, 1, 2] rfl rfl rfl rfl rfl rfl (by decide) rfl rfl rfl hl.1 rfl (Nat.le_of_ble_eq_true rfl) dX0_cutSum_58 (fun H locs hP hD hS => ?_)
    refine lv_aload_n hx hb dX0_cutSum_61 rfl (lv_at hl 0 rfl) ?_
    refine lv_iload_n hx hb dX0_cutSum_62 rfl (lv_at hl 1 rfl) ?_
    refine lv_aload_n hx hb dX0_cutSum_63 rfl (lv_at hl 0 rfl) ?_
    refine va_get (D := D) (ci := 0) (v := .ref a_this_low) (C := RX0) (T := TX0) (N := 4) hx hb hts (fun _ h => (List.mem_cons_of_mem _ (List.mem_append_right _ h))) hown hK hP 0 rfl rfl 0 (by decide) (hts (.fieldLink RX0 9 "FloatBoxes$Cutter" "low" "[I") (List.mem_cons_of_mem _ (List.mem_append_left _ (List.mem_append_left _ (List.mem_of_getElem? (i := 0) rfl))))) (fun _ h9 => h9) rfl dX0_cutSum_64 ?_
    refine lv_iload_n hx hb dX0_cutSum_67 rfl (lv_at hl 2 rfl) ?_
    obtain ⟨h68, hf⟩ := o_in_go hf
    refine va_iald hx hb hK hP 1 0 rfl rfl h68 dX0_cutSum_68 ?_
    refine lv_aload_n hx hb dX0_cutSum_69 rfl (lv_at hl 0 rfl) ?_
    refine va_get (D := D) (ci := 0) (v := .ref a_this_high) (C := RX0) (T := TX0) (N := 4) hx hb hts (fun _ h => (List.mem_cons_of_mem _ (List.mem_append_right _ h))) hown hK hP 0 rfl rfl 1 (by decide) (hts (.fieldLink RX0 15 "FloatBoxes$Cutter" "high" "[I") (List.mem_cons_of_mem _ (List.mem_append_left _ (List.mem_append_left _ (List.mem_of_getElem? (i := 1) rfl))))) (fun _ h9 => h9) rfl dX0_cutSum_70 ?_
    refine lv_iload_n hx hb dX0_cutSum_73 rfl (lv_at hl 3 rfl) ?_
    obtain ⟨h74, hf⟩ := o_in_go hf
    refine va_iald hx hb hK hP 2 0 rfl rfl h74 dX0_cutSum_74 ?_
    refine lv_iconst (v := 1) hx hb dX0_cutSum_75 (by decide) ?_
    refine lv_iadd hx hb dX0_cutSum_76 ?_
    obtain ⟨r77, hg77, hf⟩ := o_b1_go hf
    refine g_callVi (wn := (ww_X0_cutSum cI cM a_this a_this_low a_this_high v_cut_32 v_empty_32 v_low_32 v_high_32)) (rest := [.int r58, .int x1, .ref a_this]) ⟨hx, hb, hml, hown, hts⟩ (c_X0_firstSum l D cI cM a_this a_this_low a_this_high H.size v_cut_32 v_empty_32 v_low_32 v_high_32 hg77) (cwV 3 hts gX0_cutSum_X0_firstSum rfl rfl rfl (by decide +kernel) ⟨Nat.le_of_ble_eq_true rfl, Nat.le_of_ble_eq_true rfl⟩) hK hP hD hS hA [0, 1, 2] [] [0, 1, 2] rfl rfl rfl rfl rfl rfl (by decide) rfl rfl rfl hl.1 rfl (Nat.le_of_ble_eq_true rfl) dX0_cutSum_77 (fun H locs hP hD hS => ?_)
    refine lv_iconst (v := 1) hx hb dX0_cutSum_80 (by decide) ?_
    refine lv_isub hx hb dX0_cutSum_81 ?_
    obtain ⟨v_cut_82, v_empty_82, v_low_82, v_high_82, hg82, hf⟩ := o_b4_go hf
    refine g_callVv (wn := (ww_X0_cutSum cI cM a_this a_this_low a_this_high v_cut_82 v_empty_82 v_low_82 v_high_82)) (rest := []) ⟨hx, hb, hml, hown, hts⟩ (c_X0_leave l D cI cM a_this a_this_low a_this_high H.size v_cut_32 v_empty_32 v_low_32 v_high_32 hg82) (cwV 3 hts gX0_cutSum_X0_leave rfl rfl rfl (by decide +kernel) ⟨Nat.le_of_ble_eq_true rfl, Nat.le_of_ble_eq_true rfl⟩) hK hP hD hS hA [0, 1, 2] [] [0, 1, 2] rfl rfl rfl rfl rfl rfl (by decide) rfl rfl rfl hl.1 rfl (Nat.le_of_ble_eq_true rfl) dX0_cutSum_82 (fun H locs hP hD hS => ?_)
    exact w_X0_cutSum_B85 C0 hA hK v_cut_82 v_empty_82 v_low_82 v_high_82 x1 x2 x3 H locs ls hf hP hD hS (lv_sub hl [0, 1, 2, 3] rfl)
set_option maxHeartbeats 4000000 in
set_option maxRecDepth 100000 in
theorem c_X0_cutSum (l : Launch) (D : va_G) (cI cM : ClassId) (a_this a_this_low a_this_high : Nat) (sz : Nat) (v_cut : Int32) (v_empty : Int32) (v_low : Nat → Int32) (v_high : Nat → Int32) {N : Nat} {x1 : Int32} {x2 : Int32} {x3 : Int32} {o_cut : Int32} {o_empty : Int32} {o_low : Nat → Int32} {o_high : Nat → Int32} (hf : f_X0_cutSum N v_cut v_empty v_low v_high x1 x2 x3 = some (o_cut, o_empty, o_low, o_high)) : Met l yX0_cutSum wsX0_cutSum rm_X0_cutSum (g_Pc D (g_tys cI cM) (ww_X0_cutSum cI cM a_this a_this_low a_this_high v_cut v_empty v_low v_high) sz [.ref a_this, .int x1, .int x2, .int x3]) (g_QV D (g_tys cI cM) (va_A (ww_X0_cutSum cI cM a_this a_this_low a_this_high v_cut v_empty v_low v_high) sz) (ww_X0_cutSum cI cM a_this a_this_low a_this_high o_cut o_empty o_low o_high)) 0 0 (va_A (ww_X0_cutSum cI cM a_this a_this_low a_this_high v_cut v_empty v_low v_high) sz) := by
  refine g_met (cc := cX0_cutSum) (maxL := 4) (ret := none) (Qc := fun D A => g_QV D (g_tys cI cM) A (ww_X0_cutSum cI cM a_this a_this_low a_this_high o_cut o_empty o_low o_high)) (by decide) rfl ?_
  intro p e s m below meth c A C0 hA hK hP hD
  have hl := lv_entry ([.ref a_this, .int x1, .int x2, .int x3]) (n := 4) (Nat.le_of_ble_eq_true rfl)
  rw [lg_entry_eq]
  generalize (lg_sl ([.ref a_this, .int x1, .int x2, .int x3]) ++ List.replicate (4 - (lg_sl ([.ref a_this, .int x1, .int x2, .int x3])).length) Slot.unset).toArray = ls at hl ⊢
  have hl : lv_has ls 4 [(0, .ref a_this), (1, .int x1), (2, .int x2), (3, .int x3)] := hl
  exact w_X0_cutSum_B0 C0 hA hK v_cut v_empty v_low v_high x1 x2 x3 s.heap [] ls hf hP hD va_S.rf (lv_sub hl [0, 1, 2, 3] rfl)
/-! FloatBoxes$Cutter.cutProduct(III)V -/
abbrev rm_X0_cutProduct : Room := { frames := 4, cells := 0, slots := 0, locals := 99 }
abbrev ww_X0_cutProduct (cI cM : ClassId) (a_this a_this_low a_this_high : Nat) (v_cut : Int32) (v_empty : Int32) (v_low : Nat → Int32) (v_high : Nat → Int32) : va_W := [(a_this, .inr (0, [.ref a_this_low, .ref a_this_high, .int v_cut, .int v_empty])), (a_this_low, .inl (cI, 6, .inl v_low)), (a_this_high, .inl (cI, 6, .inl v_high))]
def f_X0_cutProduct  (v_cut : Int32) (v_empty : Int32) (v_low : Nat → Int32) (v_high : Nat → Int32) (x1 : Int32) (x2 : Int32) (x3 : Int32) : Option (Int32 × Int32 × (Nat → Int32) × (Nat → Int32)) :=
  o_in x1 6 (
  o_in x2 6 (
  o_b1 (f_X1_product (v_low x1.toNatClampNeg) (v_low x2.toNatClampNeg)) (fun (r12 : Int32) =>
  o_in x1 6 (
  o_in x2 6 (
  o_b1 (f_X1_product (v_low x1.toNatClampNeg) (v_high x2.toNatClampNeg)) (fun (r29 : Int32) =>
  o_in x1 6 (
  o_in x2 6 (
  o_b1 (f_X1_product (v_high x1.toNatClampNeg) (v_low x2.toNatClampNeg)) (fun (r46 : Int32) =>
  o_in x1 6 (
  o_in x2 6 (
  o_b1 (f_X1_product (v_high x1.toNatClampNeg) (v_high x2.toNatClampNeg)) (fun (r63 : Int32) =>
  o_b4 (f_X0_leave v_cut v_empty v_low v_high x3 (o_min (o_min r12 r29) (o_min r46 r63)) (o_max (o_max r12 r29) (o_max r46 r63))) (fun (v_cut_104 : Int32) (v_empty_104 : Int32) (v_low_104 : Nat → Int32) (v_high_104 : Nat → Int32) =>
  some (v_cut_104, v_empty_104, v_low_104, v_high_104))))))))))))))
set_option maxHeartbeats 4000000 in
set_option maxRecDepth 100000 in
theorem w_X0_cutProduct_B0 {p : Program} {l : Launch} {e : Env} {s : State} {m : MethodId} {args : Array Value} {below : List Frame} {meth : Method} {c : Code} {D : va_G} {cI cM : ClassId} {A : Nat → Prop} {a_this a_this_low a_this_high : Nat} {o_cut : Int32} {o_empty : Int32} {o_low : Nat → Int32} {o_high : Nat → Int32} (C0 : g_cx cX0_cutProduct none 8 RX0 wsX0_cutProduct p s m args meth c) (hA : ∀ q, s.heap.size ≤ q → A q) (hK : va_K D vwCl (g_tys cI cM) s) : ∀ (v_cut : Int32) (v_empty : Int32) (v_low : Nat → Int32) (v_high : Nat → Int32) (x1 : Int32) (x2 : Int32) (x3 : Int32) (H : Heap) (locs : List Loc) (ls : Array Slot), f_X0_cutProduct v_cut v_empty v_low v_high x1 x2 x3 = some (o_cut, o_empty, o_low, o_high) → va_P D vwCl (ww_X0_cutProduct cI cM a_this a_this_low a_this_high v_cut v_empty v_low v_high) H → va_D A (ww_X0_cutProduct cI cM a_this a_this_low a_this_high v_cut v_empty v_low v_high) → va_S A s.heap H locs → lv_has ls 8 [(0, .ref a_this), (1, .int x1), (2, .int x2), (3, .int x3)] → W p l e rm_X0_cutProduct s m args below meth c H locs 0 0 (MQ below (g_QV D (g_tys cI cM) A (ww_X0_cutProduct cI cM a_this a_this_low a_this_high o_cut o_empty o_low o_high)) args s 0 0 A) (F0 m 0 ls []) := by
  obtain ⟨hx, hb, hr, hml, hown, hts, hlocks⟩ := id C0
  intro v_cut v_empty v_low v_high x1 x2 x3 H locs ls hf hP hD hS hl
  unfold f_X0_cutProduct at hf
  refine lv_aload_n hx hb dX0_cutProduct_0 rfl (lv_at hl 0 rfl) ?_
  refine va_get (D := D) (ci := 0) (v := .ref a_this_low) (C := RX0) (T := TX0) (N := 4) hx hb hts (fun _ h => (List.mem_cons_of_mem _ (List.mem_append_right _ h))) hown hK hP 0 rfl rfl 0 (by decide) (hts (.fieldLink RX0 9 "FloatBoxes$Cutter" "low" "[I") (List.mem_cons_of_mem _ (List.mem_append_left _ (List.mem_append_left _ (List.mem_of_getElem? (i := 0) rfl))))) (fun _ h9 => h9) rfl dX0_cutProduct_1 ?_
  refine lv_iload_n hx hb dX0_cutProduct_4 rfl (lv_at hl 1 rfl) ?_
  obtain ⟨h5, hf⟩ := o_in_go hf
  refine va_iald hx hb hK hP 1 0 rfl rfl h5 dX0_cutProduct_5 ?_
  refine lv_aload_n hx hb dX0_cutProduct_6 rfl (lv_at hl 0 rfl) ?_
  refine va_get (D := D) (ci := 0) (v := .ref a_this_low) (C := RX0) (T := TX0) (N := 4) hx hb hts (fun _ h => (List.mem_cons_of_mem _ (List.mem_append_right _ h))) hown hK hP 0 rfl rfl 0 (by decide) (hts (.fieldLink RX0 9 "FloatBoxes$Cutter" "low" "[I") (List.mem_cons_of_mem _ (List.mem_append_left _ (List.mem_append_left _ (List.mem_of_getElem? (i := 0) rfl))))) (fun _ h9 => h9) rfl dX0_cutProduct_7 ?_
  refine lv_iload_n hx hb dX0_cutProduct_10 rfl (lv_at hl 2 rfl) ?_
  obtain ⟨h11, hf⟩ := o_in_go hf
  refine va_iald hx hb hK hP 1 0 rfl rfl h11 dX0_cutProduct_11 ?_
  obtain ⟨r12, hg12, hf⟩ := o_b1_go hf
  refine g_callSi (rest := []) ⟨hx, hb, hml, hown, hts⟩ (c_X1_product l hg12) (va_cwS 2 hts gX0_cutProduct_X1_product rfl rfl rfl (by decide +kernel) ⟨Nat.le_of_ble_eq_true rfl, Nat.le_of_ble_eq_true rfl⟩) rfl hl.1 rfl (Nat.le_of_ble_eq_true rfl) dX0_cutProduct_12 ?_
  refine lv_istore (lv' := [(4, .int r12), (0, .ref a_this), (1, .int x1), (2, .int x2), (3, .int x3)]) hx hb dX0_cutProduct_15 hl (by decide) rfl (fun ls hl => ?_)
  refine lv_aload_n hx hb dX0_cutProduct_17 rfl (lv_at hl 1 rfl) ?_
  refine va_get (D := D) (ci := 0) (v := .ref a_this_low) (C := RX0) (T := TX0) (N := 4) hx hb hts (fun _ h => (List.mem_cons_of_mem _ (List.mem_append_right _ h))) hown hK hP 0 rfl rfl 0 (by decide) (hts (.fieldLink RX0 9 "FloatBoxes$Cutter" "low" "[I") (List.mem_cons_of_mem _ (List.mem_append_left _ (List.mem_append_left _ (List.mem_of_getElem? (i := 0) rfl))))) (fun _ h9 => h9) rfl dX0_cutProduct_18 ?_
  refine lv_iload_n hx hb dX0_cutProduct_21 rfl (lv_at hl 2 rfl) ?_
  obtain ⟨h22, hf⟩ := o_in_go hf
  refine va_iald hx hb hK hP 1 0 rfl rfl h22 dX0_cutProduct_22 ?_
  refine lv_aload_n hx hb dX0_cutProduct_23 rfl (lv_at hl 1 rfl) ?_
  refine va_get (D := D) (ci := 0) (v := .ref a_this_high) (C := RX0) (T := TX0) (N := 4) hx hb hts (fun _ h => (List.mem_cons_of_mem _ (List.mem_append_right _ h))) hown hK hP 0 rfl rfl 1 (by decide) (hts (.fieldLink RX0 15 "FloatBoxes$Cutter" "high" "[I") (List.mem_cons_of_mem _ (List.mem_append_left _ (List.mem_append_left _ (List.mem_of_getElem? (i := 1) rfl))))) (fun _ h9 => h9) rfl dX0_cutProduct_24 ?_
  refine lv_iload_n hx hb dX0_cutProduct_27 rfl (lv_at hl 3 rfl) ?_
  obtain ⟨h28, hf⟩ := o_in_go hf
  refine va_iald hx hb hK hP 2 0 rfl rfl h28 dX0_cutProduct_28 ?_
  obtain ⟨r29, hg29, hf⟩ := o_b1_go hf
  refine g_callSi (rest := []) ⟨hx, hb, hml, hown, hts⟩ (c_X1_product l hg29) (va_cwS 2 hts gX0_cutProduct_X1_product rfl rfl rfl (by decide +kernel) ⟨Nat.le_of_ble_eq_true rfl, Nat.le_of_ble_eq_true rfl⟩) rfl hl.1 rfl (Nat.le_of_ble_eq_true rfl) dX0_cutProduct_29 ?_
  refine lv_istore (lv' := [(5, .int r29), (4, .int r12), (0, .ref a_this), (1, .int x1), (2, .int x2), (3, .int x3)]) hx hb dX0_cutProduct_32 hl (by decide) rfl (fun ls hl => ?_)
  refine lv_aload_n hx hb dX0_cutProduct_34 rfl (lv_at hl 2 rfl) ?_
  refine va_get (D := D) (ci := 0) (v := .ref a_this_high) (C := RX0) (T := TX0) (N := 4) hx hb hts (fun _ h => (List.mem_cons_of_mem _ (List.mem_append_right _ h))) hown hK hP 0 rfl rfl 1 (by decide) (hts (.fieldLink RX0 15 "FloatBoxes$Cutter" "high" "[I") (List.mem_cons_of_mem _ (List.mem_append_left _ (List.mem_append_left _ (List.mem_of_getElem? (i := 1) rfl))))) (fun _ h9 => h9) rfl dX0_cutProduct_35 ?_
  refine lv_iload_n hx hb dX0_cutProduct_38 rfl (lv_at hl 3 rfl) ?_
  obtain ⟨h39, hf⟩ := o_in_go hf
  refine va_iald hx hb hK hP 2 0 rfl rfl h39 dX0_cutProduct_39 ?_
  refine lv_aload_n hx hb dX0_cutProduct_40 rfl (lv_at hl 2 rfl) ?_
  refine va_get (D := D) (ci := 0) (v := .ref a_this_low) (C := RX0) (T := TX0) (N := 4) hx hb hts (fun _ h => (List.mem_cons_of_mem _ (List.mem_append_right _ h))) hown hK hP 0 rfl rfl 0 (by decide) (hts (.fieldLink RX0 9 "FloatBoxes$Cutter" "low" "[I") (List.mem_cons_of_mem _ (List.mem_append_left _ (List.mem_append_left _ (List.mem_of_getElem? (i := 0) rfl))))) (fun _ h9 => h9) rfl dX0_cutProduct_41 ?_
  refine lv_iload_n hx hb dX0_cutProduct_44 rfl (lv_at hl 4 rfl) ?_
  obtain ⟨h45, hf⟩ := o_in_go hf
  refine va_iald hx hb hK hP 1 0 rfl rfl h45 dX0_cutProduct_45 ?_
  obtain ⟨r46, hg46, hf⟩ := o_b1_go hf
  refine g_callSi (rest := []) ⟨hx, hb, hml, hown, hts⟩ (c_X1_product l hg46) (va_cwS 2 hts gX0_cutProduct_X1_product rfl rfl rfl (by decide +kernel) ⟨Nat.le_of_ble_eq_true rfl, Nat.le_of_ble_eq_true rfl⟩) rfl hl.1 rfl (Nat.le_of_ble_eq_true rfl) dX0_cutProduct_46 ?_
  refine lv_istore (lv' := [(6, .int r46), (5, .int r29), (4, .int r12), (0, .ref a_this), (1, .int x1), (2, .int x2), (3, .int x3)]) hx hb dX0_cutProduct_49 hl (by decide) rfl (fun ls hl => ?_)
  refine lv_aload_n hx hb dX0_cutProduct_51 rfl (lv_at hl 3 rfl) ?_
  refine va_get (D := D) (ci := 0) (v := .ref a_this_high) (C := RX0) (T := TX0) (N := 4) hx hb hts (fun _ h => (List.mem_cons_of_mem _ (List.mem_append_right _ h))) hown hK hP 0 rfl rfl 1 (by decide) (hts (.fieldLink RX0 15 "FloatBoxes$Cutter" "high" "[I") (List.mem_cons_of_mem _ (List.mem_append_left _ (List.mem_append_left _ (List.mem_of_getElem? (i := 1) rfl))))) (fun _ h9 => h9) rfl dX0_cutProduct_52 ?_
  refine lv_iload_n hx hb dX0_cutProduct_55 rfl (lv_at hl 4 rfl) ?_
  obtain ⟨h56, hf⟩ := o_in_go hf
  refine va_iald hx hb hK hP 2 0 rfl rfl h56 dX0_cutProduct_56 ?_
  refine lv_aload_n hx hb dX0_cutProduct_57 rfl (lv_at hl 3 rfl) ?_
  refine va_get (D := D) (ci := 0) (v := .ref a_this_high) (C := RX0) (T := TX0) (N := 4) hx hb hts (fun _ h => (List.mem_cons_of_mem _ (List.mem_append_right _ h))) hown hK hP 0 rfl rfl 1 (by decide) (hts (.fieldLink RX0 15 "FloatBoxes$Cutter" "high" "[I") (List.mem_cons_of_mem _ (List.mem_append_left _ (List.mem_append_left _ (List.mem_of_getElem? (i := 1) rfl))))) (fun _ h9 => h9) rfl dX0_cutProduct_58 ?_
  refine lv_iload_n hx hb dX0_cutProduct_61 rfl (lv_at hl 5 rfl) ?_
  obtain ⟨h62, hf⟩ := o_in_go hf
  refine va_iald hx hb hK hP 2 0 rfl rfl h62 dX0_cutProduct_62 ?_
  obtain ⟨r63, hg63, hf⟩ := o_b1_go hf
  refine g_callSi (rest := []) ⟨hx, hb, hml, hown, hts⟩ (c_X1_product l hg63) (va_cwS 2 hts gX0_cutProduct_X1_product rfl rfl rfl (by decide +kernel) ⟨Nat.le_of_ble_eq_true rfl, Nat.le_of_ble_eq_true rfl⟩) rfl hl.1 rfl (Nat.le_of_ble_eq_true rfl) dX0_cutProduct_63 ?_
  refine lv_istore (lv' := [(7, .int r63), (6, .int r46), (5, .int r29), (4, .int r12), (0, .ref a_this), (1, .int x1), (2, .int x2), (3, .int x3)]) hx hb dX0_cutProduct_66 hl (by decide) rfl (fun ls hl => ?_)
  refine lv_aload_n hx hb dX0_cutProduct_68 rfl (lv_at hl 4 rfl) ?_
  refine lv_iload_n hx hb dX0_cutProduct_69 rfl (lv_at hl 7 rfl) ?_
  refine lv_iload hx hb dX0_cutProduct_70 (lv_at hl 3 rfl) ?_
  refine lv_iload hx hb dX0_cutProduct_72 (lv_at hl 2 rfl) ?_
  refine va_mmin hx hb (by rw [hml]; exact hl.1.symm) hown (hts (.methodLink RX0 75 Lib.Math.min.name) (List.mem_cons_of_mem _ (List.mem_append_left _ (List.mem_append_left _ (List.mem_of_getElem? (i := 2) rfl))))) (hts (.static Lib.Math.min.name) (List.mem_cons_of_mem _ (List.mem_append_left _ (List.mem_append_left _ (List.mem_of_getElem? (i := 3) rfl))))) (hts (.initialized "java/lang/Math") (List.mem_cons_of_mem _ (List.mem_append_left _ (List.mem_append_left _ (List.mem_of_getElem? (i := 4) rfl))))) (hts (.code Lib.Math.min.name Lib.Math.min.code 2 (some .int)) (List.mem_cons_of_mem _ (List.mem_append_left _ (List.mem_append_left _ (List.mem_of_getElem? (i := 5) rfl))))) (Nat.le_of_ble_eq_true rfl) (Nat.le_of_ble_eq_true rfl) (Nat.zero_le _) (Nat.zero_le _) dX0_cutProduct_74 ?_
  refine lv_iload hx hb dX0_cutProduct_77 (lv_at hl 1 rfl) ?_
  refine lv_iload hx hb dX0_cutProduct_79 (lv_at hl 0 rfl) ?_
  refine va_mmin hx hb (by rw [hml]; exact hl.1.symm) hown (hts (.methodLink RX0 75 Lib.Math.min.name) (List.mem_cons_of_mem _ (List.mem_append_left _ (List.mem_append_left _ (List.mem_of_getElem? (i := 2) rfl))))) (hts (.static Lib.Math.min.name) (List.mem_cons_of_mem _ (List.mem_append_left _ (List.mem_append_left _ (List.mem_of_getElem? (i := 3) rfl))))) (hts (.initialized "java/lang/Math") (List.mem_cons_of_mem _ (List.mem_append_left _ (List.mem_append_left _ (List.mem_of_getElem? (i := 4) rfl))))) (hts (.code Lib.Math.min.name Lib.Math.min.code 2 (some .int)) (List.mem_cons_of_mem _ (List.mem_append_left _ (List.mem_append_left _ (List.mem_of_getElem? (i := 5) rfl))))) (Nat.le_of_ble_eq_true rfl) (Nat.le_of_ble_eq_true rfl) (Nat.zero_le _) (Nat.zero_le _) dX0_cutProduct_81 ?_
  refine va_mmin hx hb (by rw [hml]; exact hl.1.symm) hown (hts (.methodLink RX0 75 Lib.Math.min.name) (List.mem_cons_of_mem _ (List.mem_append_left _ (List.mem_append_left _ (List.mem_of_getElem? (i := 2) rfl))))) (hts (.static Lib.Math.min.name) (List.mem_cons_of_mem _ (List.mem_append_left _ (List.mem_append_left _ (List.mem_of_getElem? (i := 3) rfl))))) (hts (.initialized "java/lang/Math") (List.mem_cons_of_mem _ (List.mem_append_left _ (List.mem_append_left _ (List.mem_of_getElem? (i := 4) rfl))))) (hts (.code Lib.Math.min.name Lib.Math.min.code 2 (some .int)) (List.mem_cons_of_mem _ (List.mem_append_left _ (List.mem_append_left _ (List.mem_of_getElem? (i := 5) rfl))))) (Nat.le_of_ble_eq_true rfl) (Nat.le_of_ble_eq_true rfl) (Nat.zero_le _) (Nat.zero_le _) dX0_cutProduct_84 ?_
  refine lv_iload hx hb dX0_cutProduct_87 (lv_at hl 3 rfl) ?_
  refine lv_iload hx hb dX0_cutProduct_89 (lv_at hl 2 rfl) ?_
  refine va_mmax hx hb (by rw [hml]; exact hl.1.symm) hown (hts (.methodLink RX0 69 Lib.Math.max.name) (List.mem_cons_of_mem _ (List.mem_append_left _ (List.mem_append_left _ (List.mem_of_getElem? (i := 6) rfl))))) (hts (.static Lib.Math.max.name) (List.mem_cons_of_mem _ (List.mem_append_left _ (List.mem_append_left _ (List.mem_of_getElem? (i := 7) rfl))))) (hts (.initialized "java/lang/Math") (List.mem_cons_of_mem _ (List.mem_append_left _ (List.mem_append_left _ (List.mem_of_getElem? (i := 4) rfl))))) (hts (.code Lib.Math.max.name Lib.Math.max.code 2 (some .int)) (List.mem_cons_of_mem _ (List.mem_append_left _ (List.mem_append_left _ (List.mem_of_getElem? (i := 8) rfl))))) (Nat.le_of_ble_eq_true rfl) (Nat.le_of_ble_eq_true rfl) (Nat.zero_le _) (Nat.zero_le _) dX0_cutProduct_91 ?_
  refine lv_iload hx hb dX0_cutProduct_94 (lv_at hl 1 rfl) ?_
  refine lv_iload hx hb dX0_cutProduct_96 (lv_at hl 0 rfl) ?_
  refine va_mmax hx hb (by rw [hml]; exact hl.1.symm) hown (hts (.methodLink RX0 69 Lib.Math.max.name) (List.mem_cons_of_mem _ (List.mem_append_left _ (List.mem_append_left _ (List.mem_of_getElem? (i := 6) rfl))))) (hts (.static Lib.Math.max.name) (List.mem_cons_of_mem _ (List.mem_append_left _ (List.mem_append_left _ (List.mem_of_getElem? (i := 7) rfl))))) (hts (.initialized "java/lang/Math") (List.mem_cons_of_mem _ (List.mem_append_left _ (List.mem_append_left _ (List.mem_of_getElem? (i := 4) rfl))))) (hts (.code Lib.Math.max.name Lib.Math.max.code 2 (some .int)) (List.mem_cons_of_mem _ (List.mem_append_left _ (List.mem_append_left _ (List.mem_of_getElem? (i := 8) rfl))))) (Nat.le_of_ble_eq_true rfl) (Nat.le_of_ble_eq_true rfl) (Nat.zero_le _) (Nat.zero_le _) dX0_cutProduct_98 ?_
  refine va_mmax hx hb (by rw [hml]; exact hl.1.symm) hown (hts (.methodLink RX0 69 Lib.Math.max.name) (List.mem_cons_of_mem _ (List.mem_append_left _ (List.mem_append_left _ (List.mem_of_getElem? (i := 6) rfl))))) (hts (.static Lib.Math.max.name) (List.mem_cons_of_mem _ (List.mem_append_left _ (List.mem_append_left _ (List.mem_of_getElem? (i := 7) rfl))))) (hts (.initialized "java/lang/Math") (List.mem_cons_of_mem _ (List.mem_append_left _ (List.mem_append_left _ (List.mem_of_getElem? (i := 4) rfl))))) (hts (.code Lib.Math.max.name Lib.Math.max.code 2 (some .int)) (List.mem_cons_of_mem _ (List.mem_append_left _ (List.mem_append_left _ (List.mem_of_getElem? (i := 8) rfl))))) (Nat.le_of_ble_eq_true rfl) (Nat.le_of_ble_eq_true rfl) (Nat.zero_le _) (Nat.zero_le _) dX0_cutProduct_101 ?_
  obtain ⟨v_cut_104, v_empty_104, v_low_104, v_high_104, hg104, hf⟩ := o_b4_go hf
  refine g_callVv (wn := (ww_X0_cutProduct cI cM a_this a_this_low a_this_high v_cut_104 v_empty_104 v_low_104 v_high_104)) (rest := []) ⟨hx, hb, hml, hown, hts⟩ (c_X0_leave l D cI cM a_this a_this_low a_this_high H.size v_cut v_empty v_low v_high hg104) (cwV 3 hts gX0_cutProduct_X0_leave rfl rfl rfl (by decide +kernel) ⟨Nat.le_of_ble_eq_true rfl, Nat.le_of_ble_eq_true rfl⟩) hK hP hD hS hA [0, 1, 2] [] [0, 1, 2] rfl rfl rfl rfl rfl rfl (by decide) rfl rfl rfl hl.1 rfl (Nat.le_of_ble_eq_true rfl) dX0_cutProduct_104 (fun H locs hP hD hS => ?_)
  obtain ⟨q0, y0⟩ := o_rp hf
  obtain ⟨q1, y1⟩ := o_rp y0
  obtain ⟨q2, y2⟩ := o_rp y1
  have q3 := Option.some.inj y2
  subst q0 q1 q2 q3
  exact g_vret hx hb hr hlocks hP hD hK hS dX0_cutProduct_107
set_option maxHeartbeats 4000000 in
set_option maxRecDepth 100000 in
theorem c_X0_cutProduct (l : Launch) (D : va_G) (cI cM : ClassId) (a_this a_this_low a_this_high : Nat) (sz : Nat) (v_cut : Int32) (v_empty : Int32) (v_low : Nat → Int32) (v_high : Nat → Int32) {x1 : Int32} {x2 : Int32} {x3 : Int32} {o_cut : Int32} {o_empty : Int32} {o_low : Nat → Int32} {o_high : Nat → Int32} (hf : f_X0_cutProduct v_cut v_empty v_low v_high x1 x2 x3 = some (o_cut, o_empty, o_low, o_high)) : Met l yX0_cutProduct wsX0_cutProduct rm_X0_cutProduct (g_Pc D (g_tys cI cM) (ww_X0_cutProduct cI cM a_this a_this_low a_this_high v_cut v_empty v_low v_high) sz [.ref a_this, .int x1, .int x2, .int x3]) (g_QV D (g_tys cI cM) (va_A (ww_X0_cutProduct cI cM a_this a_this_low a_this_high v_cut v_empty v_low v_high) sz) (ww_X0_cutProduct cI cM a_this a_this_low a_this_high o_cut o_empty o_low o_high)) 0 0 (va_A (ww_X0_cutProduct cI cM a_this a_this_low a_this_high v_cut v_empty v_low v_high) sz) := by
  refine g_met (cc := cX0_cutProduct) (maxL := 8) (ret := none) (Qc := fun D A => g_QV D (g_tys cI cM) A (ww_X0_cutProduct cI cM a_this a_this_low a_this_high o_cut o_empty o_low o_high)) (by decide) rfl ?_
  intro p e s m below meth c A C0 hA hK hP hD
  have hl := lv_entry ([.ref a_this, .int x1, .int x2, .int x3]) (n := 8) (Nat.le_of_ble_eq_true rfl)
  rw [lg_entry_eq]
  generalize (lg_sl ([.ref a_this, .int x1, .int x2, .int x3]) ++ List.replicate (8 - (lg_sl ([.ref a_this, .int x1, .int x2, .int x3])).length) Slot.unset).toArray = ls at hl ⊢
  have hl : lv_has ls 8 [(0, .ref a_this), (1, .int x1), (2, .int x2), (3, .int x3)] := hl
  exact w_X0_cutProduct_B0 C0 hA hK v_cut v_empty v_low v_high x1 x2 x3 s.heap [] ls hf hP hD va_S.rf (lv_sub hl [0, 1, 2, 3] rfl)
/-! FloatBoxes$Cutter.firstProduct(IIII)I -/
abbrev rm_X0_firstProduct : Room := { frames := 4, cells := 0, slots := 0, locals := 99 }
abbrev ww_X0_firstProduct (cI cM : ClassId) (a_this a_this_low a_this_high : Nat) (v_cut : Int32) (v_empty : Int32) (v_low : Nat → Int32) (v_high : Nat → Int32) : va_W := [(a_this, .inr (0, [.ref a_this_low, .ref a_this_high, .int v_cut, .int v_empty])), (a_this_low, .inl (cI, 6, .inl v_low)), (a_this_high, .inl (cI, 6, .inl v_high))]
def f_X0_firstProduct_B126 (N : Nat) (v_low : Nat → Int32) (v_high : Nat → Int32) (k67 : Int32 → Int32 → Int32 → Int32 → Int32 → Int32 → Option (Int32)) (x2 : Int32) (x3 : Int32) (x4 : Int32) (x5 : Int32) (x6 : Int32) (x7 : Int32) : Option (Int32) :=
  k67 x2 x3 x4 x5 x6 (x7 + 1)
set_option maxHeartbeats 4000000 in
set_option maxRecDepth 100000 in
theorem w_X0_firstProduct_B126 {p : Program} {l : Launch} {e : Env} {s : State} {m : MethodId} {args : Array Value} {below : List Frame} {meth : Method} {c : Code} {D : va_G} {cI cM : ClassId} {A : Nat → Prop} {a_this a_this_low a_this_high : Nat} {v_cut : Int32} {v_empty : Int32} {N : Nat} {v_low : Nat → Int32} {v_high : Nat → Int32} {r : Int32} (C0 : g_cx cX0_firstProduct (some .int) 9 RX0 wsX0_firstProduct p s m args meth c) (hA : ∀ q, s.heap.size ≤ q → A q) (hK : va_K D vwCl (g_tys cI cM) s) (k67 : Int32 → Int32 → Int32 → Int32 → Int32 → Int32 → Option (Int32)) (hk67 : ∀ (x2 : Int32) (x3 : Int32) (x4 : Int32) (x5 : Int32) (x6 : Int32) (x7 : Int32) (H : Heap) (locs : List Loc) (ls : Array Slot), k67 x2 x3 x4 x5 x6 x7 = some r → va_P D vwCl (ww_X0_firstProduct cI cM a_this a_this_low a_this_high v_cut v_empty v_low v_high) H → va_D A (ww_X0_firstProduct cI cM a_this a_this_low a_this_high v_cut v_empty v_low v_high) → va_S A s.heap H locs → lv_has ls 9 [(2, .int x2), (3, .int x3), (4, .int x4), (5, .int x5), (6, .int x6), (7, .int x7)] → W p l e rm_X0_firstProduct s m args below meth c H locs 0 0 (MQ below (g_QI D (g_tys cI cM) A (ww_X0_firstProduct cI cM a_this a_this_low a_this_high v_cut v_empty v_low v_high) r) args s 0 0 A) (F0 m 67 ls [])) : ∀ (x2 : Int32) (x3 : Int32) (x4 : Int32) (x5 : Int32) (x6 : Int32) (x7 : Int32) (H : Heap) (locs : List Loc) (ls : Array Slot), f_X0_firstProduct_B126 N v_low v_high k67 x2 x3 x4 x5 x6 x7 = some r → va_P D vwCl (ww_X0_firstProduct cI cM a_this a_this_low a_this_high v_cut v_empty v_low v_high) H → va_D A (ww_X0_firstProduct cI cM a_this a_this_low a_this_high v_cut v_empty v_low v_high) → va_S A s.heap H locs → lv_has ls 9 [(2, .int x2), (3, .int x3), (4, .int x4), (5, .int x5), (6, .int x6), (7, .int x7)] → W p l e rm_X0_firstProduct s m args below meth c H locs 0 0 (MQ below (g_QI D (g_tys cI cM) A (ww_X0_firstProduct cI cM a_this a_this_low a_this_high v_cut v_empty v_low v_high) r) args s 0 0 A) (F0 m 126 ls []) := by
  obtain ⟨hx, hb, hr, hml, hown, hts, hlocks⟩ := id C0
  intro x2 x3 x4 x5 x6 x7 H locs ls hf hP hD hS hl
  unfold f_X0_firstProduct_B126 at hf
  refine lv_iinc (v := x7 + 1) (lv' := [(7, .int (x7 + 1)), (2, .int x2), (3, .int x3), (4, .int x4), (5, .int x5), (6, .int x6)]) hx hb dX0_firstProduct_126 hl (k := 5) rfl rfl (by decide) rfl (fun ls hl => ?_)
  refine lv_goto (tgt := 67) hx hb dX0_firstProduct_129 (by decide) ?_
  exact hk67 x2 x3 x4 x5 x6 (x7 + 1) H locs ls hf hP hD hS (lv_sub hl [1, 2, 3, 4, 5, 0] rfl)
def f_X0_firstProduct_B107 (N : Nat) (v_low : Nat → Int32) (v_high : Nat → Int32) (k67 : Int32 → Int32 → Int32 → Int32 → Int32 → Int32 → Option (Int32)) (x2 : Int32) (x3 : Int32) (x4 : Int32) (x5 : Int32) (x6 : Int32) (x7 : Int32) (x8 : Int32) (z0 : Int32) (z1 : Int32) : Option (Int32) :=
  o_b1 (f_X1_product z0 z1) (fun (r107 : Int32) =>
  if r107 < x4 then
    f_X0_firstProduct_B126 N v_low v_high k67 x2 x3 x4 x8 x6 x7
  else
    f_X0_firstProduct_B126 N v_low v_high k67 x2 x3 x4 x5 x8 x7)
set_option maxHeartbeats 4000000 in
set_option maxRecDepth 100000 in
theorem w_X0_firstProduct_B107 {p : Program} {l : Launch} {e : Env} {s : State} {m : MethodId} {args : Array Value} {below : List Frame} {meth : Method} {c : Code} {D : va_G} {cI cM : ClassId} {A : Nat → Prop} {a_this a_this_low a_this_high : Nat} {v_cut : Int32} {v_empty : Int32} {N : Nat} {v_low : Nat → Int32} {v_high : Nat → Int32} {r : Int32} (C0 : g_cx cX0_firstProduct (some .int) 9 RX0 wsX0_firstProduct p s m args meth c) (hA : ∀ q, s.heap.size ≤ q → A q) (hK : va_K D vwCl (g_tys cI cM) s) (k67 : Int32 → Int32 → Int32 → Int32 → Int32 → Int32 → Option (Int32)) (hk67 : ∀ (x2 : Int32) (x3 : Int32) (x4 : Int32) (x5 : Int32) (x6 : Int32) (x7 : Int32) (H : Heap) (locs : List Loc) (ls : Array Slot), k67 x2 x3 x4 x5 x6 x7 = some r → va_P D vwCl (ww_X0_firstProduct cI cM a_this a_this_low a_this_high v_cut v_empty v_low v_high) H → va_D A (ww_X0_firstProduct cI cM a_this a_this_low a_this_high v_cut v_empty v_low v_high) → va_S A s.heap H locs → lv_has ls 9 [(2, .int x2), (3, .int x3), (4, .int x4), (5, .int x5), (6, .int x6), (7, .int x7)] → W p l e rm_X0_firstProduct s m args below meth c H locs 0 0 (MQ below (g_QI D (g_tys cI cM) A (ww_X0_firstProduct cI cM a_this a_this_low a_this_high v_cut v_empty v_low v_high) r) args s 0 0 A) (F0 m 67 ls [])) : ∀ (x2 : Int32) (x3 : Int32) (x4 : Int32) (x5 : Int32) (x6 : Int32) (x7 : Int32) (x8 : Int32) (z0 : Int32) (z1 : Int32) (H : Heap) (locs : List Loc) (ls : Array Slot), f_X0_firstProduct_B107 N v_low v_high k67 x2 x3 x4 x5 x6 x7 x8 z0 z1 = some r → va_P D vwCl (ww_X0_firstProduct cI cM a_this a_this_low a_this_high v_cut v_empty v_low v_high) H → va_D A (ww_X0_firstProduct cI cM a_this a_this_low a_this_high v_cut v_empty v_low v_high) → va_S A s.heap H locs → lv_has ls 9 [(2, .int x2), (3, .int x3), (4, .int x4), (5, .int x5), (6, .int x6), (7, .int x7), (8, .int x8)] → W p l e rm_X0_firstProduct s m args below meth c H locs 0 0 (MQ below (g_QI D (g_tys cI cM) A (ww_X0_firstProduct cI cM a_this a_this_low a_this_high v_cut v_empty v_low v_high) r) args s 0 0 A) (F0 m 107 ls [.int z1, .int z0]) := by
  obtain ⟨hx, hb, hr, hml, hown, hts, hlocks⟩ := id C0
  intro x2 x3 x4 x5 x6 x7 x8 z0 z1 H locs ls hf hP hD hS hl
  unfold f_X0_firstProduct_B107 at hf
  obtain ⟨r107, hg107, hf⟩ := o_b1_go hf
  refine g_callSi (rest := []) ⟨hx, hb, hml, hown, hts⟩ (c_X1_product l hg107) (va_cwS 2 hts gX0_firstProduct_X1_product rfl rfl rfl (by decide +kernel) ⟨Nat.le_of_ble_eq_true rfl, Nat.le_of_ble_eq_true rfl⟩) rfl hl.1 rfl (Nat.le_of_ble_eq_true rfl) dX0_firstProduct_107 ?_
  refine lv_iload hx hb dX0_firstProduct_110 (lv_at hl 2 rfl) ?_
  refine lv_icmp_lt (tgt := 122) hx hb dX0_firstProduct_112 (by decide) (fun c112 => ?_) (fun c112 => ?_)
  · replace hf := o_t c112 hf
    refine lv_iload hx hb dX0_firstProduct_122 (lv_at hl 6 rfl) ?_
    refine lv_istore (lv' := [(5, .int x8), (2, .int x2), (3, .int x3), (4, .int x4), (6, .int x6), (7, .int x7), (8, .int x8)]) hx hb dX0_firstProduct_124 hl (by decide) rfl (fun ls hl => ?_)
    exact w_X0_firstProduct_B126 C0 hA hK k67 hk67 x2 x3 x4 x8 x6 x7 H locs ls hf hP hD hS (lv_sub hl [1, 2, 3, 0, 4, 5] rfl)
  · replace hf := o_f c112 hf
    refine lv_iload hx hb dX0_firstProduct_115 (lv_at hl 6 rfl) ?_
    refine lv_istore (lv' := [(6, .int x8), (2, .int x2), (3, .int x3), (4, .int x4), (5, .int x5), (7, .int x7), (8, .int x8)]) hx hb dX0_firstProduct_117 hl (by decide) rfl (fun ls hl => ?_)
    refine lv_goto (tgt := 126) hx hb dX0_firstProduct_119 (by decide) ?_
    exact w_X0_firstProduct_B126 C0 hA hK k67 hk67 x2 x3 x4 x5 x8 x7 H locs ls hf hP hD hS (lv_sub hl [1, 2, 3, 4, 0, 5] rfl)
def f_X0_firstProduct_C67 (N : Nat) (v_low : Nat → Int32) (v_high : Nat → Int32) (k67 : Int32 → Int32 → Int32 → Int32 → Int32 → Int32 → Option (Int32)) (x2 : Int32) (x3 : Int32) (x4 : Int32) (x5 : Int32) (x6 : Int32) (x7 : Int32) : Option (Int32) :=
  if 34 ≤ x7 then
    some x6
  else
    if (lg_cmp (x6.toInt64 - x5.toInt64) 1) ≤ 0 then
      some x6
    else
      o_b1 (f_X4_middle x5 x6) (fun (r90 : Int32) =>
      if 0 ≤ r90 then
        f_X0_firstProduct_B107 N v_low v_high k67 x2 x3 x4 x5 x6 x7 r90 r90 x3
      else
        f_X0_firstProduct_B107 N v_low v_high k67 x2 x3 x4 x5 x6 x7 r90 r90 x2)
def f_X0_firstProduct_L67 (N : Nat) (v_low : Nat → Int32) (v_high : Nat → Int32) : Nat → Int32 → Int32 → Int32 → Int32 → Int32 → Int32 → Option (Int32)
  | 0 => fun _ _ _ _ _ _ => none
  | n + 1 => f_X0_firstProduct_C67 N v_low v_high (f_X0_firstProduct_L67 N v_low v_high n)
set_option maxHeartbeats 4000000 in
set_option maxRecDepth 100000 in
theorem w_X0_firstProduct_C67 {p : Program} {l : Launch} {e : Env} {s : State} {m : MethodId} {args : Array Value} {below : List Frame} {meth : Method} {c : Code} {D : va_G} {cI cM : ClassId} {A : Nat → Prop} {a_this a_this_low a_this_high : Nat} {v_cut : Int32} {v_empty : Int32} {N : Nat} {v_low : Nat → Int32} {v_high : Nat → Int32} {r : Int32} (C0 : g_cx cX0_firstProduct (some .int) 9 RX0 wsX0_firstProduct p s m args meth c) (hA : ∀ q, s.heap.size ≤ q → A q) (hK : va_K D vwCl (g_tys cI cM) s) (k67 : Int32 → Int32 → Int32 → Int32 → Int32 → Int32 → Option (Int32)) (hk67 : ∀ (x2 : Int32) (x3 : Int32) (x4 : Int32) (x5 : Int32) (x6 : Int32) (x7 : Int32) (H : Heap) (locs : List Loc) (ls : Array Slot), k67 x2 x3 x4 x5 x6 x7 = some r → va_P D vwCl (ww_X0_firstProduct cI cM a_this a_this_low a_this_high v_cut v_empty v_low v_high) H → va_D A (ww_X0_firstProduct cI cM a_this a_this_low a_this_high v_cut v_empty v_low v_high) → va_S A s.heap H locs → lv_has ls 9 [(2, .int x2), (3, .int x3), (4, .int x4), (5, .int x5), (6, .int x6), (7, .int x7)] → W p l e rm_X0_firstProduct s m args below meth c H locs 0 0 (MQ below (g_QI D (g_tys cI cM) A (ww_X0_firstProduct cI cM a_this a_this_low a_this_high v_cut v_empty v_low v_high) r) args s 0 0 A) (F0 m 67 ls [])) : ∀ (x2 : Int32) (x3 : Int32) (x4 : Int32) (x5 : Int32) (x6 : Int32) (x7 : Int32) (H : Heap) (locs : List Loc) (ls : Array Slot), f_X0_firstProduct_C67 N v_low v_high k67 x2 x3 x4 x5 x6 x7 = some r → va_P D vwCl (ww_X0_firstProduct cI cM a_this a_this_low a_this_high v_cut v_empty v_low v_high) H → va_D A (ww_X0_firstProduct cI cM a_this a_this_low a_this_high v_cut v_empty v_low v_high) → va_S A s.heap H locs → lv_has ls 9 [(2, .int x2), (3, .int x3), (4, .int x4), (5, .int x5), (6, .int x6), (7, .int x7)] → W p l e rm_X0_firstProduct s m args below meth c H locs 0 0 (MQ below (g_QI D (g_tys cI cM) A (ww_X0_firstProduct cI cM a_this a_this_low a_this_high v_cut v_empty v_low v_high) r) args s 0 0 A) (F0 m 67 ls []) := by
  obtain ⟨hx, hb, hr, hml, hown, hts, hlocks⟩ := id C0
  intro x2 x3 x4 x5 x6 x7 H locs ls hf hP hD hS hl
  unfold f_X0_firstProduct_C67 at hf
  refine lv_iload hx hb dX0_firstProduct_67 (lv_at hl 5 rfl) ?_
  refine lv_bipush (v := 34) hx hb dX0_firstProduct_69 (by decide) ?_
  refine lv_icmp_ge (tgt := 132) hx hb dX0_firstProduct_71 (by decide) (fun c71 => ?_) (fun c71 => ?_)
  · replace hf := o_t c71 hf
    refine lv_iload hx hb dX0_firstProduct_132 (lv_at hl 4 rfl) ?_
    have q0 := Option.some.inj hf
    subst q0
    exact g_iret hx hb hr hlocks hP hD hK hS dX0_firstProduct_134
  · replace hf := o_f c71 hf
    refine lv_iload hx hb dX0_firstProduct_74 (lv_at hl 4 rfl) ?_
    refine lv_i2l hx hb dX0_firstProduct_76 rfl ?_
    refine lv_iload hx hb dX0_firstProduct_77 (lv_at hl 3 rfl) ?_
    refine lv_i2l hx hb dX0_firstProduct_79 rfl ?_
    refine lv_lsub hx hb dX0_firstProduct_80 ?_
    refine lv_lconst (v := 1) hx hb dX0_firstProduct_81 (by decide) ?_
    refine W.lcmp hx hb dX0_firstProduct_82 ?_
    refine lv_if_le (tgt := 132) hx hb dX0_firstProduct_83 (by decide) (fun c83 => ?_) (fun c83 => ?_)
    · replace hf := o_t c83 hf
      refine lv_iload hx hb dX0_firstProduct_132 (lv_at hl 4 rfl) ?_
      have q0 := Option.some.inj hf
      subst q0
      exact g_iret hx hb hr hlocks hP hD hK hS dX0_firstProduct_134
    · replace hf := o_f c83 hf
      refine lv_iload hx hb dX0_firstProduct_86 (lv_at hl 3 rfl) ?_
      refine lv_iload hx hb dX0_firstProduct_88 (lv_at hl 4 rfl) ?_
      obtain ⟨r90, hg90, hf⟩ := o_b1_go hf
      refine g_callSi (rest := []) ⟨hx, hb, hml, hown, hts⟩ (c_X4_middle l hg90) (va_cwS 2 hts gX0_firstProduct_X4_middle rfl rfl rfl (by decide +kernel) ⟨Nat.le_of_ble_eq_true rfl, Nat.le_of_ble_eq_true rfl⟩) rfl hl.1 rfl (Nat.le_of_ble_eq_true rfl) dX0_firstProduct_90 ?_
      refine lv_istore (lv' := [(8, .int r90), (2, .int x2), (3, .int x3), (4, .int x4), (5, .int x5), (6, .int x6), (7, .int x7)]) hx hb dX0_firstProduct_93 hl (by decide) rfl (fun ls hl => ?_)
      refine lv_iload hx hb dX0_firstProduct_95 (lv_at hl 0 rfl) ?_
      refine lv_iload hx hb dX0_firstProduct_97 (lv_at hl 0 rfl) ?_
      refine lv_if_ge (tgt := 106) hx hb dX0_firstProduct_99 (by decide) (fun c99 => ?_) (fun c99 => ?_)
      · replace hf := o_t c99 hf
        refine lv_iload_n hx hb dX0_firstProduct_106 rfl (lv_at hl 2 rfl) ?_
        exact w_X0_firstProduct_B107 C0 hA hK k67 hk67 x2 x3 x4 x5 x6 x7 r90 r90 x3 H locs ls hf hP hD hS (lv_sub hl [1, 2, 3, 4, 5, 6, 0] rfl)
      · replace hf := o_f c99 hf
        refine lv_iload_n hx hb dX0_firstProduct_102 rfl (lv_at hl 1 rfl) ?_
        refine lv_goto (tgt := 107) hx hb dX0_firstProduct_103 (by decide) ?_
        exact w_X0_firstProduct_B107 C0 hA hK k67 hk67 x2 x3 x4 x5 x6 x7 r90 r90 x2 H locs ls hf hP hD hS (lv_sub hl [1, 2, 3, 4, 5, 6, 0] rfl)
set_option maxHeartbeats 4000000 in
set_option maxRecDepth 100000 in
theorem w_X0_firstProduct_L67 {p : Program} {l : Launch} {e : Env} {s : State} {m : MethodId} {args : Array Value} {below : List Frame} {meth : Method} {c : Code} {D : va_G} {cI cM : ClassId} {A : Nat → Prop} {a_this a_this_low a_this_high : Nat} {v_cut : Int32} {v_empty : Int32} {N : Nat} {v_low : Nat → Int32} {v_high : Nat → Int32} {r : Int32} (C0 : g_cx cX0_firstProduct (some .int) 9 RX0 wsX0_firstProduct p s m args meth c) (hA : ∀ q, s.heap.size ≤ q → A q) (hK : va_K D vwCl (g_tys cI cM) s) : ∀ n : Nat, ∀ (x2 : Int32) (x3 : Int32) (x4 : Int32) (x5 : Int32) (x6 : Int32) (x7 : Int32) (H : Heap) (locs : List Loc) (ls : Array Slot), f_X0_firstProduct_L67 N v_low v_high n x2 x3 x4 x5 x6 x7 = some r → va_P D vwCl (ww_X0_firstProduct cI cM a_this a_this_low a_this_high v_cut v_empty v_low v_high) H → va_D A (ww_X0_firstProduct cI cM a_this a_this_low a_this_high v_cut v_empty v_low v_high) → va_S A s.heap H locs → lv_has ls 9 [(2, .int x2), (3, .int x3), (4, .int x4), (5, .int x5), (6, .int x6), (7, .int x7)] → W p l e rm_X0_firstProduct s m args below meth c H locs 0 0 (MQ below (g_QI D (g_tys cI cM) A (ww_X0_firstProduct cI cM a_this a_this_low a_this_high v_cut v_empty v_low v_high) r) args s 0 0 A) (F0 m 67 ls []) := by
  intro n
  induction n with
  | zero =>
    intro x2 x3 x4 x5 x6 x7 H locs ls hf
    exact absurd hf (fun h => nomatch h)
  | succ n ih =>
    intro x2 x3 x4 x5 x6 x7 H locs ls hf
    exact w_X0_firstProduct_C67 C0 hA hK _ ih x2 x3 x4 x5 x6 x7 H locs ls hf
def f_X0_firstProduct_B51 (N : Nat) (v_low : Nat → Int32) (v_high : Nat → Int32) (x2 : Int32) (x3 : Int32) (x4 : Int32) (x5 : Int32) (x6 : Int32) (z0 : Int32) (z1 : Int32) : Option (Int32) :=
  o_b1 (f_X1_product z0 z1) (fun (r51 : Int32) =>
  if x4 ≤ r51 then
    f_X0_firstProduct_L67 N v_low v_high N x2 x3 x4 x5 x6 0
  else
    some (x6 + 1))
set_option maxHeartbeats 4000000 in
set_option maxRecDepth 100000 in
theorem w_X0_firstProduct_B51 {p : Program} {l : Launch} {e : Env} {s : State} {m : MethodId} {args : Array Value} {below : List Frame} {meth : Method} {c : Code} {D : va_G} {cI cM : ClassId} {A : Nat → Prop} {a_this a_this_low a_this_high : Nat} {v_cut : Int32} {v_empty : Int32} {N : Nat} {v_low : Nat → Int32} {v_high : Nat → Int32} {r : Int32} (C0 : g_cx cX0_firstProduct (some .int) 9 RX0 wsX0_firstProduct p s m args meth c) (hA : ∀ q, s.heap.size ≤ q → A q) (hK : va_K D vwCl (g_tys cI cM) s) : ∀ (x2 : Int32) (x3 : Int32) (x4 : Int32) (x5 : Int32) (x6 : Int32) (z0 : Int32) (z1 : Int32) (H : Heap) (locs : List Loc) (ls : Array Slot), f_X0_firstProduct_B51 N v_low v_high x2 x3 x4 x5 x6 z0 z1 = some r → va_P D vwCl (ww_X0_firstProduct cI cM a_this a_this_low a_this_high v_cut v_empty v_low v_high) H → va_D A (ww_X0_firstProduct cI cM a_this a_this_low a_this_high v_cut v_empty v_low v_high) → va_S A s.heap H locs → lv_has ls 9 [(2, .int x2), (3, .int x3), (4, .int x4), (5, .int x5), (6, .int x6)] → W p l e rm_X0_firstProduct s m args below meth c H locs 0 0 (MQ below (g_QI D (g_tys cI cM) A (ww_X0_firstProduct cI cM a_this a_this_low a_this_high v_cut v_empty v_low v_high) r) args s 0 0 A) (F0 m 51 ls [.int z1, .int z0]) := by
  obtain ⟨hx, hb, hr, hml, hown, hts, hlocks⟩ := id C0
  intro x2 x3 x4 x5 x6 z0 z1 H locs ls hf hP hD hS hl
  unfold f_X0_firstProduct_B51 at hf
  obtain ⟨r51, hg51, hf⟩ := o_b1_go hf
  refine g_callSi (rest := []) ⟨hx, hb, hml, hown, hts⟩ (c_X1_product l hg51) (va_cwS 2 hts gX0_firstProduct_X1_product rfl rfl rfl (by decide +kernel) ⟨Nat.le_of_ble_eq_true rfl, Nat.le_of_ble_eq_true rfl⟩) rfl hl.1 rfl (Nat.le_of_ble_eq_true rfl) dX0_firstProduct_51 ?_
  refine lv_iload hx hb dX0_firstProduct_54 (lv_at hl 2 rfl) ?_
  refine lv_icmp_ge (tgt := 64) hx hb dX0_firstProduct_56 (by decide) (fun c56 => ?_) (fun c56 => ?_)
  · replace hf := o_t c56 hf
    refine lv_iconst (v := 0) hx hb dX0_firstProduct_64 (by decide) ?_
    refine lv_istore (lv' := [(7, .int 0), (2, .int x2), (3, .int x3), (4, .int x4), (5, .int x5), (6, .int x6)]) hx hb dX0_firstProduct_65 hl (by decide) rfl (fun ls hl => ?_)
    exact w_X0_firstProduct_L67 C0 hA hK N x2 x3 x4 x5 x6 0 H locs ls hf hP hD hS (lv_sub hl [1, 2, 3, 4, 5, 0] rfl)
  · replace hf := o_f c56 hf
    refine lv_iload hx hb dX0_firstProduct_59 (lv_at hl 4 rfl) ?_
    refine lv_iconst (v := 1) hx hb dX0_firstProduct_61 (by decide) ?_
    refine lv_iadd hx hb dX0_firstProduct_62 ?_
    have q0 := Option.some.inj hf
    subst q0
    exact g_iret hx hb hr hlocks hP hD hK hS dX0_firstProduct_63
def f_X0_firstProduct_B28 (N : Nat) (v_low : Nat → Int32) (v_high : Nat → Int32) (x2 : Int32) (x3 : Int32) (x4 : Int32) (x5 : Int32) (x6 : Int32) (z0 : Int32) (z1 : Int32) : Option (Int32) :=
  o_b1 (f_X1_product z0 z1) (fun (r28 : Int32) =>
  if r28 < x4 then
    if 0 ≤ x6 then
      f_X0_firstProduct_B51 N v_low v_high x2 x3 x4 x5 x6 x6 x3
    else
      f_X0_firstProduct_B51 N v_low v_high x2 x3 x4 x5 x6 x6 x2
  else
    some x5)
set_option maxHeartbeats 4000000 in
set_option maxRecDepth 100000 in
theorem w_X0_firstProduct_B28 {p : Program} {l : Launch} {e : Env} {s : State} {m : MethodId} {args : Array Value} {below : List Frame} {meth : Method} {c : Code} {D : va_G} {cI cM : ClassId} {A : Nat → Prop} {a_this a_this_low a_this_high : Nat} {v_cut : Int32} {v_empty : Int32} {N : Nat} {v_low : Nat → Int32} {v_high : Nat → Int32} {r : Int32} (C0 : g_cx cX0_firstProduct (some .int) 9 RX0 wsX0_firstProduct p s m args meth c) (hA : ∀ q, s.heap.size ≤ q → A q) (hK : va_K D vwCl (g_tys cI cM) s) : ∀ (x2 : Int32) (x3 : Int32) (x4 : Int32) (x5 : Int32) (x6 : Int32) (z0 : Int32) (z1 : Int32) (H : Heap) (locs : List Loc) (ls : Array Slot), f_X0_firstProduct_B28 N v_low v_high x2 x3 x4 x5 x6 z0 z1 = some r → va_P D vwCl (ww_X0_firstProduct cI cM a_this a_this_low a_this_high v_cut v_empty v_low v_high) H → va_D A (ww_X0_firstProduct cI cM a_this a_this_low a_this_high v_cut v_empty v_low v_high) → va_S A s.heap H locs → lv_has ls 9 [(2, .int x2), (3, .int x3), (4, .int x4), (5, .int x5), (6, .int x6)] → W p l e rm_X0_firstProduct s m args below meth c H locs 0 0 (MQ below (g_QI D (g_tys cI cM) A (ww_X0_firstProduct cI cM a_this a_this_low a_this_high v_cut v_empty v_low v_high) r) args s 0 0 A) (F0 m 28 ls [.int z1, .int z0]) := by
  obtain ⟨hx, hb, hr, hml, hown, hts, hlocks⟩ := id C0
  intro x2 x3 x4 x5 x6 z0 z1 H locs ls hf hP hD hS hl
  unfold f_X0_firstProduct_B28 at hf
  obtain ⟨r28, hg28, hf⟩ := o_b1_go hf
  refine g_callSi (rest := []) ⟨hx, hb, hml, hown, hts⟩ (c_X1_product l hg28) (va_cwS 2 hts gX0_firstProduct_X1_product rfl rfl rfl (by decide +kernel) ⟨Nat.le_of_ble_eq_true rfl, Nat.le_of_ble_eq_true rfl⟩) rfl hl.1 rfl (Nat.le_of_ble_eq_true rfl) dX0_firstProduct_28 ?_
  refine lv_iload hx hb dX0_firstProduct_31 (lv_at hl 2 rfl) ?_
  refine lv_icmp_lt (tgt := 39) hx hb dX0_firstProduct_33 (by decide) (fun c33 => ?_) (fun c33 => ?_)
  · replace hf := o_t c33 hf
    refine lv_iload hx hb dX0_firstProduct_39 (lv_at hl 4 rfl) ?_
    refine lv_iload hx hb dX0_firstProduct_41 (lv_at hl 4 rfl) ?_
    refine lv_if_ge (tgt := 50) hx hb dX0_firstProduct_43 (by decide) (fun c43 => ?_) (fun c43 => ?_)
    · replace hf := o_t c43 hf
      refine lv_iload_n hx hb dX0_firstProduct_50 rfl (lv_at hl 1 rfl) ?_
      exact w_X0_firstProduct_B51 C0 hA hK x2 x3 x4 x5 x6 x6 x3 H locs ls hf hP hD hS (lv_sub hl [0, 1, 2, 3, 4] rfl)
    · replace hf := o_f c43 hf
      refine lv_iload_n hx hb dX0_firstProduct_46 rfl (lv_at hl 0 rfl) ?_
      refine lv_goto (tgt := 51) hx hb dX0_firstProduct_47 (by decide) ?_
      exact w_X0_firstProduct_B51 C0 hA hK x2 x3 x4 x5 x6 x6 x2 H locs ls hf hP hD hS (lv_sub hl [0, 1, 2, 3, 4] rfl)
  · replace hf := o_f c33 hf
    refine lv_iload hx hb dX0_firstProduct_36 (lv_at hl 3 rfl) ?_
    have q0 := Option.some.inj hf
    subst q0
    exact g_iret hx hb hr hlocks hP hD hK hS dX0_firstProduct_38
def f_X0_firstProduct (N : Nat) (v_low : Nat → Int32) (v_high : Nat → Int32) (x1 : Int32) (x2 : Int32) (x3 : Int32) (x4 : Int32) : Option (Int32) :=
  o_in x1 6 (
  o_nm (v_low x1.toNatClampNeg) (fun (t6 : Int32) =>
  o_in x1 6 (
  o_nm (v_high x1.toNatClampNeg) (fun (t14 : Int32) =>
  if 0 ≤ t6 then
    f_X0_firstProduct_B28 N v_low v_high x2 x3 x4 t6 t14 t6 x3
  else
    f_X0_firstProduct_B28 N v_low v_high x2 x3 x4 t6 t14 t6 x2))))
set_option maxHeartbeats 4000000 in
set_option maxRecDepth 100000 in
theorem w_X0_firstProduct_B0 {p : Program} {l : Launch} {e : Env} {s : State} {m : MethodId} {args : Array Value} {below : List Frame} {meth : Method} {c : Code} {D : va_G} {cI cM : ClassId} {A : Nat → Prop} {a_this a_this_low a_this_high : Nat} {v_cut : Int32} {v_empty : Int32} {N : Nat} {v_low : Nat → Int32} {v_high : Nat → Int32} {r : Int32} (C0 : g_cx cX0_firstProduct (some .int) 9 RX0 wsX0_firstProduct p s m args meth c) (hA : ∀ q, s.heap.size ≤ q → A q) (hK : va_K D vwCl (g_tys cI cM) s) : ∀ (x1 : Int32) (x2 : Int32) (x3 : Int32) (x4 : Int32) (H : Heap) (locs : List Loc) (ls : Array Slot), f_X0_firstProduct N v_low v_high x1 x2 x3 x4 = some r → va_P D vwCl (ww_X0_firstProduct cI cM a_this a_this_low a_this_high v_cut v_empty v_low v_high) H → va_D A (ww_X0_firstProduct cI cM a_this a_this_low a_this_high v_cut v_empty v_low v_high) → va_S A s.heap H locs → lv_has ls 9 [(0, .ref a_this), (1, .int x1), (2, .int x2), (3, .int x3), (4, .int x4)] → W p l e rm_X0_firstProduct s m args below meth c H locs 0 0 (MQ below (g_QI D (g_tys cI cM) A (ww_X0_firstProduct cI cM a_this a_this_low a_this_high v_cut v_empty v_low v_high) r) args s 0 0 A) (F0 m 0 ls []) := by
  obtain ⟨hx, hb, hr, hml, hown, hts, hlocks⟩ := id C0
  intro x1 x2 x3 x4 H locs ls hf hP hD hS hl
  unfold f_X0_firstProduct at hf
  refine lv_aload_n hx hb dX0_firstProduct_0 rfl (lv_at hl 0 rfl) ?_
  refine va_get (D := D) (ci := 0) (v := .ref a_this_low) (C := RX0) (T := TX0) (N := 4) hx hb hts (fun _ h => (List.mem_cons_of_mem _ (List.mem_append_right _ h))) hown hK hP 0 rfl rfl 0 (by decide) (hts (.fieldLink RX0 9 "FloatBoxes$Cutter" "low" "[I") (List.mem_cons_of_mem _ (List.mem_append_left _ (List.mem_append_left _ (List.mem_of_getElem? (i := 0) rfl))))) (fun _ h9 => h9) rfl dX0_firstProduct_1 ?_
  refine lv_iload_n hx hb dX0_firstProduct_4 rfl (lv_at hl 1 rfl) ?_
  obtain ⟨h5, hf⟩ := o_in_go hf
  refine va_iald hx hb hK hP 1 0 rfl rfl h5 dX0_firstProduct_5 ?_
  refine lv_topi (fun t6 et6 => ?_)
  replace hf := o_nm_go et6 hf
  refine lv_istore (lv' := [(5, .int t6), (0, .ref a_this), (1, .int x1), (2, .int x2), (3, .int x3), (4, .int x4)]) hx hb dX0_firstProduct_6 hl (by decide) rfl (fun ls hl => ?_)
  refine lv_aload_n hx hb dX0_firstProduct_8 rfl (lv_at hl 1 rfl) ?_
  refine va_get (D := D) (ci := 0) (v := .ref a_this_high) (C := RX0) (T := TX0) (N := 4) hx hb hts (fun _ h => (List.mem_cons_of_mem _ (List.mem_append_right _ h))) hown hK hP 0 rfl rfl 1 (by decide) (hts (.fieldLink RX0 15 "FloatBoxes$Cutter" "high" "[I") (List.mem_cons_of_mem _ (List.mem_append_left _ (List.mem_append_left _ (List.mem_of_getElem? (i := 1) rfl))))) (fun _ h9 => h9) rfl dX0_firstProduct_9 ?_
  refine lv_iload_n hx hb dX0_firstProduct_12 rfl (lv_at hl 2 rfl) ?_
  obtain ⟨h13, hf⟩ := o_in_go hf
  refine va_iald hx hb hK hP 2 0 rfl rfl h13 dX0_firstProduct_13 ?_
  refine lv_topi (fun t14 et14 => ?_)
  replace hf := o_nm_go et14 hf
  refine lv_istore (lv' := [(6, .int t14), (5, .int t6), (0, .ref a_this), (1, .int x1), (2, .int x2), (3, .int x3), (4, .int x4)]) hx hb dX0_firstProduct_14 hl (by decide) rfl (fun ls hl => ?_)
  refine lv_iload hx hb dX0_firstProduct_16 (lv_at hl 1 rfl) ?_
  refine lv_iload hx hb dX0_firstProduct_18 (lv_at hl 1 rfl) ?_
  refine lv_if_ge (tgt := 27) hx hb dX0_firstProduct_20 (by decide) (fun c20 => ?_) (fun c20 => ?_)
  · replace hf := o_t c20 hf
    refine lv_iload_n hx hb dX0_firstProduct_27 rfl (lv_at hl 5 rfl) ?_
    exact w_X0_firstProduct_B28 C0 hA hK x2 x3 x4 t6 t14 t6 x3 H locs ls hf hP hD hS (lv_sub hl [4, 5, 6, 1, 0] rfl)
  · replace hf := o_f c20 hf
    refine lv_iload_n hx hb dX0_firstProduct_23 rfl (lv_at hl 4 rfl) ?_
    refine lv_goto (tgt := 28) hx hb dX0_firstProduct_24 (by decide) ?_
    exact w_X0_firstProduct_B28 C0 hA hK x2 x3 x4 t6 t14 t6 x2 H locs ls hf hP hD hS (lv_sub hl [4, 5, 6, 1, 0] rfl)
set_option maxHeartbeats 4000000 in
set_option maxRecDepth 100000 in
theorem c_X0_firstProduct (l : Launch) (D : va_G) (cI cM : ClassId) (a_this a_this_low a_this_high : Nat) (sz : Nat) (v_cut : Int32) (v_empty : Int32) (v_low : Nat → Int32) (v_high : Nat → Int32) {N : Nat} {x1 : Int32} {x2 : Int32} {x3 : Int32} {x4 : Int32} {r : Int32} (hf : f_X0_firstProduct N v_low v_high x1 x2 x3 x4 = some r) : Met l yX0_firstProduct wsX0_firstProduct rm_X0_firstProduct (g_Pc D (g_tys cI cM) (ww_X0_firstProduct cI cM a_this a_this_low a_this_high v_cut v_empty v_low v_high) sz [.ref a_this, .int x1, .int x2, .int x3, .int x4]) (g_QI D (g_tys cI cM) (va_A (ww_X0_firstProduct cI cM a_this a_this_low a_this_high v_cut v_empty v_low v_high) sz) (ww_X0_firstProduct cI cM a_this a_this_low a_this_high v_cut v_empty v_low v_high) r) 0 0 (va_A (ww_X0_firstProduct cI cM a_this a_this_low a_this_high v_cut v_empty v_low v_high) sz) := by
  refine g_met (cc := cX0_firstProduct) (maxL := 9) (ret := (some .int)) (Qc := fun D A => g_QI D (g_tys cI cM) A (ww_X0_firstProduct cI cM a_this a_this_low a_this_high v_cut v_empty v_low v_high) r) (by decide) rfl ?_
  intro p e s m below meth c A C0 hA hK hP hD
  have hl := lv_entry ([.ref a_this, .int x1, .int x2, .int x3, .int x4]) (n := 9) (Nat.le_of_ble_eq_true rfl)
  rw [lg_entry_eq]
  generalize (lg_sl ([.ref a_this, .int x1, .int x2, .int x3, .int x4]) ++ List.replicate (9 - (lg_sl ([.ref a_this, .int x1, .int x2, .int x3, .int x4])).length) Slot.unset).toArray = ls at hl ⊢
  have hl : lv_has ls 9 [(0, .ref a_this), (1, .int x1), (2, .int x2), (3, .int x3), (4, .int x4)] := hl
  exact w_X0_firstProduct_B0 C0 hA hK x1 x2 x3 x4 s.heap [] ls hf hP hD va_S.rf (lv_sub hl [0, 1, 2, 3, 4] rfl)
