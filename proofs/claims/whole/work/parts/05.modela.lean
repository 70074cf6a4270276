/-! FloatBoxes$Model.copy(LFloatBoxes$Model;)V -/
abbrev rm_X3_copy : Room := { frames := 1, cells := 0, slots := 0, locals := 48 }
abbrev ww_X3_copy (cI cM : ClassId) (a_this a_this_low a_this_high a_this_kind a_this_x a_this_y a_this_z a_p1 a_p1_low a_p1_high a_p1_kind a_p1_x a_p1_y a_p1_z : Nat) (v_unknowns : Int32) (v_rules : Int32) (v_p1_unknowns : Int32) (v_p1_rules : Int32) (v_p1_low : Nat → Int32) (v_low : Nat → Int32) (v_p1_high : Nat → Int32) (v_high : Nat → Int32) (v_p1_kind : Nat → Int32) (v_kind : Nat → Int32) (v_p1_x : Nat → Int32) (v_x : Nat → Int32) (v_p1_y : Nat → Int32) (v_y : Nat → Int32) (v_p1_z : Nat → Int32) (v_z : Nat → Int32) : va_W := [(a_this, .inr (2, [.int v_unknowns, .int v_rules, .ref a_this_low, .ref a_this_high, .ref a_this_kind, .ref a_this_x, .ref a_this_y, .ref a_this_z])), (a_p1, .inr (2, [.int v_p1_unknowns, .int v_p1_rules, .ref a_p1_low, .ref a_p1_high, .ref a_p1_kind, .ref a_p1_x, .ref a_p1_y, .ref a_p1_z])), (a_p1_low, .inl (cI, 6, .inl v_p1_low)), (a_this_low, .inl (cI, 6, .inl v_low)), (a_p1_high, .inl (cI, 6, .inl v_p1_high)), (a_this_high, .inl (cI, 6, .inl v_high)), (a_p1_kind, .inl (cI, 6, .inl v_p1_kind)), (a_this_kind, .inl (cI, 6, .inl v_kind)), (a_p1_x, .inl (cI, 6, .inl v_p1_x)), (a_this_x, .inl (cI, 6, .inl v_x)), (a_p1_y, .inl (cI, 6, .inl v_p1_y)), (a_this_y, .inl (cI, 6, .inl v_y)), (a_p1_z, .inl (cI, 6, .inl v_p1_z)), (a_this_z, .inl (cI, 6, .inl v_z))]
def f_X3_copy (v_p1_unknowns : Int32) (v_p1_rules : Int32) (v_p1_low : Nat → Int32) (v_p1_high : Nat → Int32) (v_p1_kind : Nat → Int32) (v_p1_x : Nat → Int32) (v_p1_y : Nat → Int32) (v_p1_z : Nat → Int32) (v_unknowns : Int32) (v_rules : Int32) (v_low : Nat → Int32) (v_high : Nat → Int32) (v_kind : Nat → Int32) (v_x : Nat → Int32) (v_y : Nat → Int32) (v_z : Nat → Int32) : Option (Int32 × Int32 × (Nat → Int32) × (Nat → Int32) × (Nat → Int32) × (Nat → Int32) × (Nat → Int32) × (Nat → Int32)) :=
  o_ck (decide (¬ (0 : Int32) < 0 ∧ ¬ (0 : Int32) < 0 ∧ ¬ (6 : Int32) < 0 ∧ (0 : Int32).toNatClampNeg + (6 : Int32).toNatClampNeg ≤ 6 ∧ (0 : Int32).toNatClampNeg + (6 : Int32).toNatClampNeg ≤ 6)) (
  o_ck (decide (¬ (0 : Int32) < 0 ∧ ¬ (0 : Int32) < 0 ∧ ¬ (6 : Int32) < 0 ∧ (0 : Int32).toNatClampNeg + (6 : Int32).toNatClampNeg ≤ 6 ∧ (0 : Int32).toNatClampNeg + (6 : Int32).toNatClampNeg ≤ 6)) (
  o_ck (decide (¬ (0 : Int32) < 0 ∧ ¬ (0 : Int32) < 0 ∧ ¬ (6 : Int32) < 0 ∧ (0 : Int32).toNatClampNeg + (6 : Int32).toNatClampNeg ≤ 6 ∧ (0 : Int32).toNatClampNeg + (6 : Int32).toNatClampNeg ≤ 6)) (
  o_ck (decide (¬ (0 : Int32) < 0 ∧ ¬ (0 : Int32) < 0 ∧ ¬ (6 : Int32) < 0 ∧ (0 : Int32).toNatClampNeg + (6 : Int32).toNatClampNeg ≤ 6 ∧ (0 : Int32).toNatClampNeg + (6 : Int32).toNatClampNeg ≤ 6)) (
  o_ck (decide (¬ (0 : Int32) < 0 ∧ ¬ (0 : Int32) < 0 ∧ ¬ (6 : Int32) < 0 ∧ (0 : Int32).toNatClampNeg + (6 : Int32).toNatClampNeg ≤ 6 ∧ (0 : Int32).toNatClampNeg + (6 : Int32).toNatClampNeg ≤ 6)) (
  o_ck (decide (¬ (0 : Int32) < 0 ∧ ¬ (0 : Int32) < 0 ∧ ¬ (6 : Int32) < 0 ∧ (0 : Int32).toNatClampNeg + (6 : Int32).toNatClampNeg ≤ 6 ∧ (0 : Int32).toNatClampNeg + (6 : Int32).toNatClampNeg ≤ 6)) (
  some (v_p1_unknowns, v_p1_rules, va_cpy v_p1_low v_low (0 : Int32).toNatClampNeg (0 : Int32).toNatClampNeg (6 : Int32).toNatClampNeg, va_cpy v_p1_high v_high (0 : Int32).toNatClampNeg (0 : Int32).toNatClampNeg (6 : Int32).toNatClampNeg, va_cpy v_p1_kind v_kind (0 : Int32).toNatClampNeg (0 : Int32).toNatClampNeg (6 : Int32).toNatClampNeg, va_cpy v_p1_x v_x (0 : Int32).toNatClampNeg (0 : Int32).toNatClampNeg (6 : Int32).toNatClampNeg, va_cpy v_p1_y v_y (0 : Int32).toNatClampNeg (0 : Int32).toNatClampNeg (6 : Int32).toNatClampNeg, va_cpy v_p1_z v_z (0 : Int32).toNatClampNeg (0 : Int32).toNatClampNeg (6 : Int32).toNatClampNeg)))))))
set_option maxHeartbeats 4000000 in
set_option maxRecDepth 100000 in
theorem w_X3_copy_B0 {p : Program} {l : Launch} {e : Env} {s : State} {m : MethodId} {args : Array Value} {below : List Frame} {meth : Method} {c : Code} {D : va_G} {cI cM : ClassId} {A : Nat → Prop} {a_this a_this_low a_this_high a_this_kind a_this_x a_this_y a_this_z a_p1 a_p1_low a_p1_high a_p1_kind a_p1_x a_p1_y a_p1_z : Nat} {v_p1_unknowns : Int32} {v_p1_rules : Int32} {v_p1_low : Nat → Int32} {v_p1_high : Nat → Int32} {v_p1_kind : Nat → Int32} {v_p1_x : Nat → Int32} {v_p1_y : Nat → Int32} {v_p1_z : Nat → Int32} {o_unknowns : Int32} {o_rules : Int32} {o_low : Nat → Int32} {o_high : Nat → Int32} {o_kind : Nat → Int32} {o_x : Nat → Int32} {o_y : Nat → Int32} {o_z : Nat → Int32} (C0 : g_cx cX3_copy none 2 RX3 wsX3_copy p s m args meth c) (hA : ∀ q, s.heap.size ≤ q → A q) (hK : va_K D vwCl (g_tys cI cM) s) : ∀ (v_unknowns : Int32) (v_rules : Int32) (v_low : Nat → Int32) (v_high : Nat → Int32) (v_kind : Nat → Int32) (v_x : Nat → Int32) (v_y : Nat → Int32) (v_z : Nat → Int32) (H : Heap) (locs : List Loc) (ls : Array Slot), f_X3_copy v_p1_unknowns v_p1_rules v_p1_low v_p1_high v_p1_kind v_p1_x v_p1_y v_p1_z v_unknowns v_rules v_low v_high v_kind v_x v_y v_z = some (o_unknowns, o_rules, o_low, o_high, o_kind, o_x, o_y, o_z) → va_P D vwCl (ww_X3_copy cI cM a_this a_this_low a_this_high a_this_kind a_this_x a_this_y a_this_z a_p1 a_p1_low a_p1_high a_p1_kind a_p1_x a_p1_y a_p1_z v_unknowns v_rules v_p1_unknowns v_p1_rules v_p1_low v_low v_p1_high v_high v_p1_kind v_kind v_p1_x v_x v_p1_y v_y v_p1_z v_z) H → va_D A (ww_X3_copy cI cM a_this a_this_low a_this_high a_this_kind a_this_x a_this_y a_this_z a_p1 a_p1_low a_p1_high a_p1_kind a_p1_x a_p1_y a_p1_z v_unknowns v_rules v_p1_unknowns v_p1_rules v_p1_low v_low v_p1_high v_high v_p1_kind v_kind v_p1_x v_x v_p1_y v_y v_p1_z v_z) → va_S A s.heap H locs → lv_has ls 2 [(0, .ref a_this), (1, .ref a_p1)] → W p l e rm_X3_copy s m args below meth c H locs 0 0 (MQ below (g_QV D (g_tys cI cM) A (ww_X3_copy cI cM a_this a_this_low a_this_high a_this_kind a_this_x a_this_y a_this_z a_p1 a_p1_low a_p1_high a_p1_kind a_p1_x a_p1_y a_p1_z o_unknowns o_rules v_p1_unknowns v_p1_rules v_p1_low o_low v_p1_high o_high v_p1_kind o_kind v_p1_x o_x v_p1_y o_y v_p1_z o_z)) args s 0 0 A) (F0 m 0 ls []) := by
  obtain ⟨hx, hb, hr, hml, hown, hts, hlocks⟩ := id C0
  intro v_unknowns v_rules v_low v_high v_kind v_x v_y v_z H locs ls hf hP hD hS hl
  unfold f_X3_copy at hf
  refine lv_aload_n hx hb dX3_copy_0 rfl (lv_at hl 0 rfl) ?_
  refine lv_aload_n hx hb dX3_copy_1 rfl (lv_at hl 1 rfl) ?_
  refine va_get (D := D) (ci := 2) (v := .int v_p1_unknowns) (C := RX3) (T := TX3) (N := 8) hx hb hts (fun _ h => (List.mem_cons_of_mem _ (List.mem_append_right _ h))) hown hK hP 1 rfl rfl 0 (by decide) (hts (.fieldLink RX3 30 "FloatBoxes$Model" "unknowns" "I") (List.mem_cons_of_mem _ (List.mem_append_left _ (List.mem_of_getElem? (i := 0) rfl)))) (fun _ h9 => h9) rfl dX3_copy_2 ?_
  refine va_put (D := D) (ci := 2) (v := .int v_p1_unknowns) (ty := .int) (C := RX3) (T := TX3) (N := 8) hx hb hts (fun _ h => (List.mem_cons_of_mem _ (List.mem_append_right _ h))) tyX3 tyX3_ok nmX3 hown hK hP hD hS 0 rfl rfl 0 (by decide) (hts (.fieldLink RX3 30 "FloatBoxes$Model" "unknowns" "I") (List.mem_cons_of_mem _ (List.mem_append_left _ (List.mem_of_getElem? (i := 0) rfl)))) (fun _ h9 => h9) rfl (by decide +kernel) rfl rfl (Nat.le_of_ble_eq_true rfl) dX3_copy_5 (fun H locs hP hD hS => ?_)
  replace hP : va_P D vwCl (ww_X3_copy cI cM a_this a_this_low a_this_high a_this_kind a_this_x a_this_y a_this_z a_p1 a_p1_low a_p1_high a_p1_kind a_p1_x a_p1_y a_p1_z v_p1_unknowns v_rules v_p1_unknowns v_p1_rules v_p1_low v_low v_p1_high v_high v_p1_kind v_kind v_p1_x v_x v_p1_y v_y v_p1_z v_z) H := hP
  replace hD : va_D A (ww_X3_copy cI cM a_this a_this_low a_this_high a_this_kind a_this_x a_this_y a_this_z a_p1 a_p1_low a_p1_high a_p1_kind a_p1_x a_p1_y a_p1_z v_p1_unknowns v_rules v_p1_unknowns v_p1_rules v_p1_low v_low v_p1_high v_high v_p1_kind v_kind v_p1_x v_x v_p1_y v_y v_p1_z v_z) := hD
  refine lv_aload_n hx hb dX3_copy_8 rfl (lv_at hl 0 rfl) ?_
  refine lv_aload_n hx hb dX3_copy_9 rfl (lv_at hl 1 rfl) ?_
  refine va_get (D := D) (ci := 2) (v := .int v_p1_rules) (C := RX3) (T := TX3) (N := 8) hx hb hts (fun _ h => (List.mem_cons_of_mem _ (List.mem_append_right _ h))) hown hK hP 1 rfl rfl 1 (by decide) (hts (.fieldLink RX3 34 "FloatBoxes$Model" "rules" "I") (List.mem_cons_of_mem _ (List.mem_append_left _ (List.mem_of_getElem? (i := 1) rfl)))) (fun _ h9 => h9) rfl dX3_copy_10 ?_
  refine va_put (D := D) (ci := 2) (v := .int v_p1_rules) (ty := .int) (C := RX3) (T := TX3) (N := 8) hx hb hts (fun _ h => (List.mem_cons_of_mem _ (List.mem_append_right _ h))) tyX3 tyX3_ok nmX3 hown hK hP hD hS 0 rfl rfl 1 (by decide) (hts (.fieldLink RX3 34 "FloatBoxes$Model" "rules" "I") (List.mem_cons_of_mem _ (List.mem_append_left _ (List.mem_of_getElem? (i := 1) rfl)))) (fun _ h9 => h9) rfl (by decide +kernel) rfl rfl (Nat.le_of_ble_eq_true rfl) dX3_copy_13 (fun H locs hP hD hS => ?_)
  replace hP : va_P D vwCl (ww_X3_copy cI cM a_this a_this_low a_this_high a_this_kind a_this_x a_this_y a_this_z a_p1 a_p1_low a_p1_high a_p1_kind a_p1_x a_p1_y a_p1_z v_p1_unknowns v_p1_rules v_p1_unknowns v_p1_rules v_p1_low v_low v_p1_high v_high v_p1_kind v_kind v_p1_x v_x v_p1_y v_y v_p1_z v_z) H := hP
  replace hD : va_D A (ww_X3_copy cI cM a_this a_this_low a_this_high a_this_kind a_this_x a_this_y a_this_z a_p1 a_p1_low a_p1_high a_p1_kind a_p1_x a_p1_y a_p1_z v_p1_unknowns v_p1_rules v_p1_unknowns v_p1_rules v_p1_low v_low v_p1_high v_high v_p1_kind v_kind v_p1_x v_x v_p1_y v_y v_p1_z v_z) := hD
  refine lv_aload_n hx hb dX3_copy_16 rfl (lv_at hl 1 rfl) ?_
  refine va_get (D := D) (ci := 2) (v := .ref a_p1_low) (C := RX3) (T := TX3) (N := 8) hx hb hts (fun _ h => (List.mem_cons_of_mem _ (List.mem_append_right _ h))) hown hK hP 1 rfl rfl 2 (by decide) (hts (.fieldLink RX3 9 "FloatBoxes$Model" "low" "[I") (List.mem_cons_of_mem _ (List.mem_append_left _ (List.mem_of_getElem? (i := 2) rfl)))) (fun _ h9 => h9) rfl dX3_copy_17 ?_
  refine lv_iconst (v := 0) hx hb dX3_copy_20 (by decide) ?_
  refine lv_aload_n hx hb dX3_copy_21 rfl (lv_at hl 0 rfl) ?_
  refine va_get (D := D) (ci := 2) (v := .ref a_this_low) (C := RX3) (T := TX3) (N := 8) hx hb hts (fun _ h => (List.mem_cons_of_mem _ (List.mem_append_right _ h))) hown hK hP 0 rfl rfl 2 (by decide) (hts (.fieldLink RX3 9 "FloatBoxes$Model" "low" "[I") (List.mem_cons_of_mem _ (List.mem_append_left _ (List.mem_of_getElem? (i := 2) rfl)))) (fun _ h9 => h9) rfl dX3_copy_22 ?_
  refine lv_iconst (v := 0) hx hb dX3_copy_25 (by decide) ?_
  refine lv_bipush (v := 6) hx hb dX3_copy_26 (by decide) ?_
  obtain ⟨h28, hf⟩ := o_ck_go hf
  obtain ⟨h28a, h28b, h28c, h28d, h28e⟩ := of_decide_eq_true h28
  refine va_copyi hx hb (by rw [hml]; exact hl.1.symm) hown (hts (.methodLink RX3 37 arraycopyName) (List.mem_cons_of_mem _ (List.mem_append_left _ (List.mem_of_getElem? (i := 3) rfl)))) (hts (.native arraycopyName) (List.mem_cons_of_mem _ (List.mem_append_left _ (List.mem_of_getElem? (i := 4) rfl)))) (hts (.static arraycopyName) (List.mem_cons_of_mem _ (List.mem_append_left _ (List.mem_of_getElem? (i := 5) rfl)))) (hts (.initialized "java/lang/System") (List.mem_cons_of_mem _ (List.mem_append_left _ (List.mem_of_getElem? (i := 6) rfl)))) hK hP hD hS 2 3 0 0 rfl rfl rfl rfl rfl h28a h28b h28c h28d h28e (fun i _ => rfl) (Nat.le_of_ble_eq_true rfl) (Nat.le_of_ble_eq_true (by decide)) dX3_copy_28 (fun H locs hP hD hS => ?_)
  replace hP : va_P D vwCl (ww_X3_copy cI cM a_this a_this_low a_this_high a_this_kind a_this_x a_this_y a_this_z a_p1 a_p1_low a_p1_high a_p1_kind a_p1_x a_p1_y a_p1_z v_p1_unknowns v_p1_rules v_p1_unknowns v_p1_rules v_p1_low (va_cpy v_p1_low v_low (0 : Int32).toNatClampNeg (0 : Int32).toNatClampNeg (6 : Int32).toNatClampNeg) v_p1_high v_high v_p1_kind v_kind v_p1_x v_x v_p1_y v_y v_p1_z v_z) H := hP
  replace hD : va_D A (ww_X3_copy cI cM a_this a_this_low a_this_high a_this_kind a_this_x a_this_y a_this_z a_p1 a_p1_low a_p1_high a_p1_kind a_p1_x a_p1_y a_p1_z v_p1_unknowns v_p1_rules v_p1_unknowns v_p1_rules v_p1_low (va_cpy v_p1_low v_low (0 : Int32).toNatClampNeg (0 : Int32).toNatClampNeg (6 : Int32).toNatClampNeg) v_p1_high v_high v_p1_kind v_kind v_p1_x v_x v_p1_y v_y v_p1_z v_z) := hD
  refine lv_aload_n hx hb dX3_copy_31 rfl (lv_at hl 1 rfl) ?_
  refine va_get (D := D) (ci := 2) (v := .ref a_p1_high) (C := RX3) (T := TX3) (N := 8) hx hb hts (fun _ h => (List.mem_cons_of_mem _ (List.mem_append_right _ h))) hown hK hP 1 rfl rfl 3 (by decide) (hts (.fieldLink RX3 15 "FloatBoxes$Model" "high" "[I") (List.mem_cons_of_mem _ (List.mem_append_left _ (List.mem_of_getElem? (i := 7) rfl)))) (fun _ h9 => h9) rfl dX3_copy_32 ?_
  refine lv_iconst (v := 0) hx hb dX3_copy_35 (by decide) ?_
  refine lv_aload_n hx hb dX3_copy_36 rfl (lv_at hl 0 rfl) ?_
  refine va_get (D := D) (ci := 2) (v := .ref a_this_high) (C := RX3) (T := TX3) (N := 8) hx hb hts (fun _ h => (List.mem_cons_of_mem _ (List.mem_append_right _ h))) hown hK hP 0 rfl rfl 3 (by decide) (hts (.fieldLink RX3 15 "FloatBoxes$Model" "high" "[I") (List.mem_cons_of_mem _ (List.mem_append_left _ (List.mem_of_getElem? (i := 7) rfl)))) (fun _ h9 => h9) rfl dX3_copy_37 ?_
  refine lv_iconst (v := 0) hx hb dX3_copy_40 (by decide) ?_
  refine lv_bipush (v := 6) hx hb dX3_copy_41 (by decide) ?_
  obtain ⟨h43, hf⟩ := o_ck_go hf
  obtain ⟨h43a, h43b, h43c, h43d, h43e⟩ := of_decide_eq_true h43
  refine va_copyi hx hb (by rw [hml]; exact hl.1.symm) hown (hts (.methodLink RX3 37 arraycopyName) (List.mem_cons_of_mem _ (List.mem_append_left _ (List.mem_of_getElem? (i := 3) rfl)))) (hts (.native arraycopyName) (List.mem_cons_of_mem _ (List.mem_append_left _ (List.mem_of_getElem? (i := 4) rfl)))) (hts (.static arraycopyName) (List.mem_cons_of_mem _ (List.mem_append_left _ (List.mem_of_getElem? (i := 5) rfl)))) (hts (.initialized "java/lang/System") (List.mem_cons_of_mem _ (List.mem_append_left _ (List.mem_of_getElem? (i := 6) rfl)))) hK hP hD hS 4 5 0 0 rfl rfl rfl rfl rfl h43a h43b h43c h43d h43e (fun i _ => rfl) (Nat.le_of_ble_eq_true rfl) (Nat.le_of_ble_eq_true (by decide)) dX3_copy_43 (fun H locs hP hD hS => ?_)
  replace hP : va_P D vwCl (ww_X3_copy cI cM a_this a_this_low a_this_high a_this_kind a_this_x a_this_y a_this_z a_p1 a_p1_low a_p1_high a_p1_kind a_p1_x a_p1_y a_p1_z v_p1_unknowns v_p1_rules v_p1_unknowns v_p1_rules v_p1_low (va_cpy v_p1_low v_low (0 : Int32).toNatClampNeg (0 : Int32).toNatClampNeg (6 : Int32).toNatClampNeg) v_p1_high (va_cpy v_p1_high v_high (0 : Int32).toNatClampNeg (0 : Int32).toNatClampNeg (6 : Int32).toNatClampNeg) v_p1_kind v_kind v_p1_x v_x v_p1_y v_y v_p1_z v_z) H := hP
  replace hD : va_D A (ww_X3_copy cI cM a_this a_this_low a_this_high a_this_kind a_this_x a_this_y a_this_z a_p1 a_p1_low a_p1_high a_p1_kind a_p1_x a_p1_y a_p1_z v_p1_unknowns v_p1_rules v_p1_unknowns v_p1_rules v_p1_low (va_cpy v_p1_low v_low (0 : Int32).toNatClampNeg (0 : Int32).toNatClampNeg (6 : Int32).toNatClampNeg) v_p1_high (va_cpy v_p1_high v_high (0 : Int32).toNatClampNeg (0 : Int32).toNatClampNeg (6 : Int32).toNatClampNeg) v_p1_kind v_kind v_p1_x v_x v_p1_y v_y v_p1_z v_z) := hD
  refine lv_aload_n hx hb dX3_copy_46 rfl (lv_at hl 1 rfl) ?_
  refine va_get (D := D) (ci := 2) (v := .ref a_p1_kind) (C := RX3) (T := TX3) (N := 8) hx hb hts (fun _ h => (List.mem_cons_of_mem _ (List.mem_append_right _ h))) hown hK hP 1 rfl rfl 4 (by decide) (hts (.fieldLink RX3 18 "FloatBoxes$Model" "kind" "[I") (List.mem_cons_of_mem _ (List.mem_append_left _ (List.mem_of_getElem? (i := 8) rfl)))) (fun _ h9 => h9) rfl dX3_copy_47 ?_
  refine lv_iconst (v := 0) hx hb dX3_copy_50 (by decide) ?_
  refine lv_aload_n hx hb dX3_copy_51 rfl (lv_at hl 0 rfl) ?_
  refine va_get (D := D) (ci := 2) (v := .ref a_this_kind) (C := RX3) (T := TX3) (N := 8) hx hb hts (fun _ h => (List.mem_cons_of_mem _ (List.mem_append_right _ h))) hown hK hP 0 rfl rfl 4 (by decide) (hts (.fieldLink RX3 18 "FloatBoxes$Model" "kind" "[I") (List.mem_cons_of_mem _ (List.mem_append_left _ (List.mem_of_getElem? (i := 8) rfl)))) (fun _ h9 => h9) rfl dX3_copy_52 ?_
  refine lv_iconst (v := 0) hx hb dX3_copy_55 (by decide) ?_
  refine lv_bipush (v := 6) hx hb dX3_copy_56 (by decide) ?_
  obtain ⟨h58, hf⟩ := o_ck_go hf
  obtain ⟨h58a, h58b, h58c, h58d, h58e⟩ := of_decide_eq_true h58
  refine va_copyi hx hb (by rw [hml]; exact hl.1.symm) hown (hts (.methodLink RX3 37 arraycopyName) (List.mem_cons_of_mem _ (List.mem_append_left _ (List.mem_of_getElem? (i := 3) rfl)))) (hts (.native arraycopyName) (List.mem_cons_of_mem _ (List.mem_append_left _ (List.mem_of_getElem? (i := 4) rfl)))) (hts (.static arraycopyName) (List.mem_cons_of_mem _ (List.mem_append_left _ (List.mem_of_getElem? (i := 5) rfl)))) (hts (.initialized "java/lang/System") (List.mem_cons_of_mem _ (List.mem_append_left _ (List.mem_of_getElem? (i := 6) rfl)))) hK hP hD hS 6 7 0 0 rfl rfl rfl rfl rfl h58a h58b h58c h58d h58e (fun i _ => rfl) (Nat.le_of_ble_eq_true rfl) (Nat.le_of_ble_eq_true (by decide)) dX3_copy_58 (fun H locs hP hD hS => ?_)
  replace hP : va_P D vwCl (ww_X3_copy cI cM a_this a_this_low a_this_high a_this_kind a_this_x a_this_y a_this_z a_p1 a_p1_low a_p1_high a_p1_kind a_p1_x a_p1_y a_p1_z v_p1_unknowns v_p1_rules v_p1_unknowns v_p1_rules v_p1_low (va_cpy v_p1_low v_low (0 : Int32).toNatClampNeg (0 : Int32).toNatClampNeg (6 : Int32).toNatClampNeg) v_p1_high (va_cpy v_p1_high v_high (0 : Int32).toNatClampNeg (0 : Int32).toNatClampNeg (6 : Int32).toNatClampNeg) v_p1_kind (va_cpy v_p1_kind v_kind (0 : Int32).toNatClampNeg (0 : Int32).toNatClampNeg (6 : Int32).toNatClampNeg) v_p1_x v_x v_p1_y v_y v_p1_z v_z) H := hP
  replace hD : va_D A (ww_X3_copy cI cM a_this a_this_low a_this_high a_this_kind a_this_x a_this_y a_this_z a_p1 a_p1_low a_p1_high a_p1_kind a_p1_x a_p1_y a_p1_z v_p1_unknowns v_p1_rules v_p1_unknowns v_p1_rules v_p1_low (va_cpy v_p1_low v_low (0 : Int32).toNatClampNeg (0 : Int32).toNatClampNeg (6 : Int32).toNatClampNeg) v_p1_high (va_cpy v_p1_high v_high (0 : Int32).toNatClampNeg (0 : Int32).toNatClampNeg (6 : Int32).toNatClampNeg) v_p1_kind (va_cpy v_p1_kind v_kind (0 : Int32).toNatClampNeg (0 : Int32).toNatClampNeg (6 : Int32).toNatClampNeg) v_p1_x v_x v_p1_y v_y v_p1_z v_z) := hD
  refine lv_aload_n hx hb dX3_copy_61 rfl (lv_at hl 1 rfl) ?_
  refine va_get (D := D) (ci := 2) (v := .ref a_p1_x) (C := RX3) (T := TX3) (N := 8) hx hb hts (fun _ h => (List.mem_cons_of_mem _ (List.mem_append_right _ h))) hown hK hP 1 rfl rfl 5 (by decide) (hts (.fieldLink RX3 21 "FloatBoxes$Model" "x" "[I") (List.mem_cons_of_mem _ (List.mem_append_left _ (List.mem_of_getElem? (i := 9) rfl)))) (fun _ h9 => h9) rfl dX3_copy_62 ?_
  refine lv_iconst (v := 0) hx hb dX3_copy_65 (by decide) ?_
  refine lv_aload_n hx hb dX3_copy_66 rfl (lv_at hl 0 rfl) ?_
  refine va_get (D := D) (ci := 2) (v := .ref a_this_x) (C := RX3) (T := TX3) (N := 8) hx hb hts (fun _ h => (List.mem_cons_of_mem _ (List.mem_append_right _ h))) hown hK hP 0 rfl rfl 5 (by decide) (hts (.fieldLink RX3 21 "FloatBoxes$Model" "x" "[I") (List.mem_cons_of_mem _ (List.mem_append_left _ (List.mem_of_getElem? (i := 9) rfl)))) (fun _ h9 => h9) rfl dX3_copy_67 ?_
  refine lv_iconst (v := 0) hx hb dX3_copy_70 (by decide) ?_
  refine lv_bipush (v := 6) hx hb dX3_copy_71 (by decide) ?_
  obtain ⟨h73, hf⟩ := o_ck_go hf
  obtain ⟨h73a, h73b, h73c, h73d, h73e⟩ := of_decide_eq_true h73
  refine va_copyi hx hb (by rw [hml]; exact hl.1.symm) hown (hts (.methodLink RX3 37 arraycopyName) (List.mem_cons_of_mem _ (List.mem_append_left _ (List.mem_of_getElem? (i := 3) rfl)))) (hts (.native arraycopyName) (List.mem_cons_of_mem _ (List.mem_append_left _ (List.mem_of_getElem? (i := 4) rfl)))) (hts (.static arraycopyName) (List.mem_cons_of_mem _ (List.mem_append_left _ (List.mem_of_getElem? (i := 5) rfl)))) (hts (.initialized "java/lang/System") (List.mem_cons_of_mem _ (List.mem_append_left _ (List.mem_of_getElem? (i := 6) rfl)))) hK hP hD hS 8 9 0 0 rfl rfl rfl rfl rfl h73a h73b h73c h73d h73e (fun i _ => rfl) (Nat.le_of_ble_eq_true rfl) (Nat.le_of_ble_eq_true (by decide)) dX3_copy_73 (fun H locs hP hD hS => ?_)
  replace hP : va_P D vwCl (ww_X3_copy cI cM a_this a_this_low a_this_high a_this_kind a_this_x a_this_y a_this_z a_p1 a_p1_low a_p1_high a_p1_kind a_p1_x a_p1_y a_p1_z v_p1_unknowns v_p1_rules v_p1_unknowns v_p1_rules v_p1_low (va_cpy v_p1_low v_low (0 : Int32).toNatClampNeg (0 : Int32).toNatClampNeg (6 : Int32).toNatClampNeg) v_p1_high (va_cpy v_p1_high v_high (0 : Int32).toNatClampNeg (0 : Int32).toNatClampNeg (6 : Int32).toNatClampNeg) v_p1_kind (va_cpy v_p1_kind v_kind (0 : Int32).toNatClampNeg (0 : Int32).toNatClampNeg (6 : Int32).toNatClampNeg) v_p1_x (va_cpy v_p1_x v_x (0 : Int32).toNatClampNeg (0 : Int32).toNatClampNeg (6 : Int32).toNatClampNeg) v_p1_y v_y v_p1_z v_z) H := hP
  replace hD : va_D A (ww_X3_copy cI cM a_this a_this_low a_this_high a_this_kind a_this_x a_this_y a_this_z a_p1 a_p1_low a_p1_high a_p1_kind a_p1_x a_p1_y a_p1_z v_p1_unknowns v_p1_rules v_p1_unknowns v_p1_rules v_p1_low (va_cpy v_p1_low v_low (0 : Int32).toNatClampNeg (0 : Int32).toNatClampNeg (6 : Int32).toNatClampNeg) v_p1_high (va_cpy v_p1_high v_high (0 : Int32).toNatClampNeg (0 : Int32).toNatClampNeg (6 : Int32).toNatClampNeg) v_p1_kind (va_cpy v_p1_kind v_kind (0 : Int32).toNatClampNeg (0 : Int32).toNatClampNeg (6 : Int32).toNatClampNeg) v_p1_x (va_cpy v_p1_x v_x (0 : Int32).toNatClampNeg (0 : Int32).toNatClampNeg (6 : Int32).toNatClampNeg) v_p1_y v_y v_p1_z v_z) := hD
  refine lv_aload_n hx hb dX3_copy_76 rfl (lv_at hl 1 rfl) ?_
  refine va_get (D := D) (ci := 2) (v := .ref a_p1_y) (C := RX3) (T := TX3) (N := 8) hx hb hts (fun _ h => (List.mem_cons_of_mem _ (List.mem_append_right _ h))) hown hK hP 1 rfl rfl 6 (by decide) (hts (.fieldLink RX3 24 "FloatBoxes$Model" "y" "[I") (List.mem_cons_of_mem _ (List.mem_append_left _ (List.mem_of_getElem? (i := 10) rfl)))) (fun _ h9 => h9) rfl dX3_copy_77 ?_
  refine lv_iconst (v := 0) hx hb dX3_copy_80 (by decide) ?_
  refine lv_aload_n hx hb dX3_copy_81 rfl (lv_at hl 0 rfl) ?_
  refine va_get (D := D) (ci := 2) (v := .ref a_this_y) (C := RX3) (T := TX3) (N := 8) hx hb hts (fun _ h => (List.mem_cons_of_mem _ (List.mem_append_right _ h))) hown hK hP 0 rfl rfl 6 (by decide) (hts (.fieldLink RX3 24 "FloatBoxes$Model" "y" "[I") (List.mem_cons_of_mem _ (List.mem_append_left _ (List.mem_of_getElem? (i := 10) rfl)))) (fun _ h9 => h9) rfl dX3_copy_82 ?_
  refine lv_iconst (v := 0) hx hb dX3_copy_85 (by decide) ?_
  refine lv_bipush (v := 6) hx hb dX3_copy_86 (by decide) ?_
  obtain ⟨h88, hf⟩ := o_ck_go hf
  obtain ⟨h88a, h88b, h88c, h88d, h88e⟩ := of_decide_eq_true h88
  refine va_copyi hx hb (by rw [hml]; exact hl.1.symm) hown (hts (.methodLink RX3 37 arraycopyName) (List.mem_cons_of_mem _ (List.mem_append_left _ (List.mem_of_getElem? (i := 3) rfl)))) (hts (.native arraycopyName) (List.mem_cons_of_mem _ (List.mem_append_left _ (List.mem_of_getElem? (i := 4) rfl)))) (hts (.static arraycopyName) (List.mem_cons_of_mem _ (List.mem_append_left _ (List.mem_of_getElem? (i := 5) rfl)))) (hts (.initialized "java/lang/System") (List.mem_cons_of_mem _ (List.mem_append_left _ (List.mem_of_getElem? (i := 6) rfl)))) hK hP hD hS 10 11 0 0 rfl rfl rfl rfl rfl h88a h88b h88c h88d h88e (fun i _ => rfl) (Nat.le_of_ble_eq_true rfl) (Nat.le_of_ble_eq_true (by decide)) dX3_copy_88 (fun H locs hP hD hS => ?_)
  replace hP : va_P D vwCl (ww_X3_copy cI cM a_this a_this_low a_this_high a_this_kind a_this_x a_this_y a_this_z a_p1 a_p1_low a_p1_high a_p1_kind a_p1_x a_p1_y a_p1_z v_p1_unknowns v_p1_rules v_p1_unknowns v_p1_rules v_p1_low (va_cpy v_p1_low v_low (0 : Int32).toNatClampNeg (0 : Int32).toNatClampNeg (6 : Int32).toNatClampNeg) v_p1_high (va_cpy v_p1_high v_high (0 : Int32).toNatClampNeg (0 : Int32).toNatClampNeg (6 : Int32).toNatClampNeg) v_p1_kind (va_cpy v_p1_kind v_kind (0 : Int32).toNatClampNeg (0 : Int32).toNatClampNeg (6 : Int32).toNatClampNeg) v_p1_x (va_cpy v_p1_x v_x (0 : Int32).toNatClampNeg (0 : Int32).toNatClampNeg (6 : Int32).toNatClampNeg) v_p1_y (va_cpy v_p1_y v_y (0 : Int32).toNatClampNeg (0 : Int32).toNatClampNeg (6 : Int32).toNatClampNeg) v_p1_z v_z) H := hP
  replace hD : va_D A (ww_X3_copy cI cM a_this a_this_low a_this_high a_this_kind a_this_x a_this_y a_this_z a_p1 a_p1_low a_p1_high a_p1_kind a_p1_x a_p1_y a_p1_z v_p1_unknowns v_p1_rules v_p1_unknowns v_p1_rules v_p1_low (va_cpy v_p1_low v_low (0 : Int32).toNatClampNeg (0 : Int32).toNatClampNeg (6 : Int32).toNatClampNeg) v_p1_high (va_cpy v_p1_high v_high (0 : Int32).toNatClampNeg (0 : Int32).toNatClampNeg (6 : Int32).toNatClampNeg) v_p1_kind (va_cpy v_p1_kind v_kind (0 : Int32).toNatClampNeg (0 : Int32).toNatClampNeg (6 : Int32).toNatClampNeg) v_p1_x (va_cpy v_p1_x v_x (0 : Int32).toNatClampNeg (0 : Int32).toNatClampNeg (6 : Int32).toNatClampNeg) v_p1_y (va_cpy v_p1_y v_y (0 : Int32).toNatClampNeg (0 : Int32).toNatClampNeg (6 : Int32).toNatClampNeg) v_p1_z v_z) := hD
  refine lv_aload_n hx hb dX3_copy_91 rfl (lv_at hl 1 rfl) ?_
  refine va_get (D := D) (ci := 2) (v := .ref a_p1_z) (C := RX3) (T := TX3) (N := 8) hx hb hts (fun _ h => (List.mem_cons_of_mem _ (List.mem_append_right _ h))) hown hK hP 1 rfl rfl 7 (by decide) (hts (.fieldLink RX3 27 "FloatBoxes$Model" "z" "[I") (List.mem_cons_of_mem _ (List.mem_append_left _ (List.mem_of_getElem? (i := 11) rfl)))) (fun _ h9 => h9) rfl dX3_copy_92 ?_
  refine lv_iconst (v := 0) hx hb dX3_copy_95 (by decide) ?_
  refine lv_aload_n hx hb dX3_copy_96 rfl (lv_at hl 0 rfl) ?_
  refine va_get (D := D) (ci := 2) (v := .ref a_this_z) (C := RX3) (T := TX3) (N := 8) hx hb hts (fun _ h => (List.mem_cons_of_mem _ (List.mem_append_right _ h))) hown hK hP 0 rfl rfl 7 (by decide) (hts (.fieldLink RX3 27 "FloatBoxes$Model" "z" "[I") (List.mem_cons_of_mem _ (List.mem_append_left _ (List.mem_of_getElem? (i := 11) rfl)))) (fun _ h9 => h9) rfl dX3_copy_97 ?_
  refine lv_iconst (v := 0) hx hb dX3_copy_100 (by decide) ?_
  refine lv_bipush (v := 6) hx hb dX3_copy_101 (by decide) ?_
  obtain ⟨h103, hf⟩ := o_ck_go hf
  obtain ⟨h103a, h103b, h103c, h103d, h103e⟩ := of_decide_eq_true h103
  refine va_copyi hx hb (by rw [hml]; exact hl.1.symm) hown (hts (.methodLink RX3 37 arraycopyName) (List.mem_cons_of_mem _ (List.mem_append_left _ (List.mem_of_getElem? (i := 3) rfl)))) (hts (.native arraycopyName) (List.mem_cons_of_mem _ (List.mem_append_left _ (List.mem_of_getElem? (i := 4) rfl)))) (hts (.static arraycopyName) (List.mem_cons_of_mem _ (List.mem_append_left _ (List.mem_of_getElem? (i := 5) rfl)))) (hts (.initialized "java/lang/System") (List.mem_cons_of_mem _ (List.mem_append_left _ (List.mem_of_getElem? (i := 6) rfl)))) hK hP hD hS 12 13 0 0 rfl rfl rfl rfl rfl h103a h103b h103c h103d h103e (fun i _ => rfl) (Nat.le_of_ble_eq_true rfl) (Nat.le_of_ble_eq_true (by decide)) dX3_copy_103 (fun H locs hP hD hS => ?_)
  replace hP : va_P D vwCl (ww_X3_copy cI cM a_this a_this_low a_this_high a_this_kind a_this_x a_this_y a_this_z a_p1 a_p1_low a_p1_high a_p1_kind a_p1_x a_p1_y a_p1_z v_p1_unknowns v_p1_rules v_p1_unknowns v_p1_rules v_p1_low (va_cpy v_p1_low v_low (0 : Int32).toNatClampNeg (0 : Int32).toNatClampNeg (6 : Int32).toNatClampNeg) v_p1_high (va_cpy v_p1_high v_high (0 : Int32).toNatClampNeg (0 : Int32).toNatClampNeg (6 : Int32).toNatClampNeg) v_p1_kind (va_cpy v_p1_kind v_kind (0 : Int32).toNatClampNeg (0 : Int32).toNatClampNeg (6 : Int32).toNatClampNeg) v_p1_x (va_cpy v_p1_x v_x (0 : Int32).toNatClampNeg (0 : Int32).toNatClampNeg (6 : Int32).toNatClampNeg) v_p1_y (va_cpy v_p1_y v_y (0 : Int32).toNatClampNeg (0 : Int32).toNatClampNeg (6 : Int32).toNatClampNeg) v_p1_z (va_cpy v_p1_z v_z (0 : Int32).toNatClampNeg (0 : Int32).toNatClampNeg (6 : Int32).toNatClampNeg)) H := hP
  replace hD : va_D A (ww_X3_copy cI cM a_this a_this_low a_this_high a_this_kind a_this_x a_this_y a_this_z a_p1 a_p1_low a_p1_high a_p1_kind a_p1_x a_p1_y a_p1_z v_p1_unknowns v_p1_rules v_p1_unknowns v_p1_rules v_p1_low (va_cpy v_p1_low v_low (0 : Int32).toNatClampNeg (0 : Int32).toNatClampNeg (6 : Int32).toNatClampNeg) v_p1_high (va_cpy v_p1_high v_high (0 : Int32).toNatClampNeg (0 : Int32).toNatClampNeg (6 : Int32).toNatClampNeg) v_p1_kind (va_cpy v_p1_kind v_kind (0 : Int32).toNatClampNeg (0 : Int32).toNatClampNeg (6 : Int32).toNatClampNeg) v_p1_x (va_cpy v_p1_x v_x (0 : Int32).toNatClampNeg (0 : Int32).toNatClampNeg (6 : Int32).toNatClampNeg) v_p1_y (va_cpy v_p1_y v_y (0 : Int32).toNatClampNeg (0 : Int32).toNatClampNeg (6 : Int32).toNatClampNeg) v_p1_z (va_cpy v_p1_z v_z (0 : Int32).toNatClampNeg (0 : Int32).toNatClampNeg (6 : Int32).toNatClampNeg)) := hD
  obtain ⟨q0, y0⟩ := o_rp hf
  obtain ⟨q1, y1⟩ := o_rp y0
  obtain ⟨q2, y2⟩ := o_rp y1
  obtain ⟨q3, y3⟩ := o_rp y2
  obtain ⟨q4, y4⟩ := o_rp y3
  obtain ⟨q5, y5⟩ := o_rp y4
  obtain ⟨q6, y6⟩ := o_rp y5
  have q7 := Option.some.inj y6
  subst q0 q1 q2 q3 q4 q5 q6 q7
  exact g_vret hx hb hr hlocks hP hD hK hS dX3_copy_106
set_option maxHeartbeats 4000000 in
set_option maxRecDepth 100000 in
theorem c_X3_copy (l : Launch) (D : va_G) (cI cM : ClassId) (a_this a_this_low a_this_high a_this_kind a_this_x a_this_y a_this_z a_p1 a_p1_low a_p1_high a_p1_kind a_p1_x a_p1_y a_p1_z : Nat) (sz : Nat) (v_unknowns : Int32) (v_rules : Int32) (v_p1_unknowns : Int32) (v_p1_rules : Int32) (v_p1_low : Nat → Int32) (v_low : Nat → Int32) (v_p1_high : Nat → Int32) (v_high : Nat → Int32) (v_p1_kind : Nat → Int32) (v_kind : Nat → Int32) (v_p1_x : Nat → Int32) (v_x : Nat → Int32) (v_p1_y : Nat → Int32) (v_y : Nat → Int32) (v_p1_z : Nat → Int32) (v_z : Nat → Int32) {o_unknowns : Int32} {o_rules : Int32} {o_low : Nat → Int32} {o_high : Nat → Int32} {o_kind : Nat → Int32} {o_x : Nat → Int32} {o_y : Nat → Int32} {o_z : Nat → Int32} (hf : f_X3_copy v_p1_unknowns v_p1_rules v_p1_low v_p1_high v_p1_kind v_p1_x v_p1_y v_p1_z v_unknowns v_rules v_low v_high v_kind v_x v_y v_z = some (o_unknowns, o_rules, o_low, o_high, o_kind, o_x, o_y, o_z)) : Met l yX3_copy wsX3_copy rm_X3_copy (g_Pc D (g_tys cI cM) (ww_X3_copy cI cM a_this a_this_low a_this_high a_this_kind a_this_x a_this_y a_this_z a_p1 a_p1_low a_p1_high a_p1_kind a_p1_x a_p1_y a_p1_z v_unknowns v_rules v_p1_unknowns v_p1_rules v_p1_low v_low v_p1_high v_high v_p1_kind v_kind v_p1_x v_x v_p1_y v_y v_p1_z v_z) sz [.ref a_this, .ref a_p1]) (g_QV D (g_tys cI cM) (va_A (ww_X3_copy cI cM a_this a_this_low a_this_high a_this_kind a_this_x a_this_y a_this_z a_p1 a_p1_low a_p1_high a_p1_kind a_p1_x a_p1_y a_p1_z v_unknowns v_rules v_p1_unknowns v_p1_rules v_p1_low v_low v_p1_high v_high v_p1_kind v_kind v_p1_x v_x v_p1_y v_y v_p1_z v_z) sz) (ww_X3_copy cI cM a_this a_this_low a_this_high a_this_kind a_this_x a_this_y a_this_z a_p1 a_p1_low a_p1_high a_p1_kind a_p1_x a_p1_y a_p1_z o_unknowns o_rules v_p1_unknowns v_p1_rules v_p1_low o_low v_p1_high o_high v_p1_kind o_kind v_p1_x o_x v_p1_y o_y v_p1_z o_z)) 0 0 (va_A (ww_X3_copy cI cM a_this a_this_low a_this_high a_this_kind a_this_x a_this_y a_this_z a_p1 a_p1_low a_p1_high a_p1_kind a_p1_x a_p1_y a_p1_z v_unknowns v_rules v_p1_unknowns v_p1_rules v_p1_low v_low v_p1_high v_high v_p1_kind v_kind v_p1_x v_x v_p1_y v_y v_p1_z v_z) sz) := by
  refine g_met (cc := cX3_copy) (maxL := 2) (ret := none) (Qc := fun D A => g_QV D (g_tys cI cM) A (ww_X3_copy cI cM a_this a_this_low a_this_high a_this_kind a_this_x a_this_y a_this_z a_p1 a_p1_low a_p1_high a_p1_kind a_p1_x a_p1_y a_p1_z o_unknowns o_rules v_p1_unknowns v_p1_rules v_p1_low o_low v_p1_high o_high v_p1_kind o_kind v_p1_x o_x v_p1_y o_y v_p1_z o_z)) (by decide) rfl ?_
  intro p e s m below meth c A C0 hA hK hP hD
  have hl := lv_entry ([.ref a_this, .ref a_p1]) (n := 2) (Nat.le_of_ble_eq_true rfl)
  rw [lg_entry_eq]
  generalize (lg_sl ([.ref a_this, .ref a_p1]) ++ List.replicate (2 - (lg_sl ([.ref a_this, .ref a_p1])).length) Slot.unset).toArray = ls at hl ⊢
  have hl : lv_has ls 2 [(0, .ref a_this), (1, .ref a_p1)] := hl
  exact w_X3_copy_B0 C0 hA hK v_unknowns v_rules v_low v_high v_kind v_x v_y v_z s.heap [] ls hf hP hD va_S.rf (lv_sub hl [0, 1] rfl)
/-! FloatBoxes$Model.hasUnknown(I)Z -/
abbrev rm_X3_hasUnknown : Room := { frames := 0, cells := 0, slots := 0, locals := 0 }
abbrev ww_X3_hasUnknown (cI cM : ClassId) (a_this a_this_low a_this_high a_this_kind a_this_x a_this_y a_this_z : Nat) (v_unknowns : Int32) (v_rules : Int32) : va_W := [(a_this, .inr (2, [.int v_unknowns, .int v_rules, .ref a_this_low, .ref a_this_high, .ref a_this_kind, .ref a_this_x, .ref a_this_y, .ref a_this_z]))]
def f_X3_hasUnknown (v_unknowns : Int32) (x1 : Int32) : Option (Int32) :=
  if x1 < 0 then
    some 0
  else
    if v_unknowns ≤ x1 then
      some 0
    else
      some 1
set_option maxHeartbeats 4000000 in
set_option maxRecDepth 100000 in
theorem w_X3_hasUnknown_B0 {p : Program} {l : Launch} {e : Env} {s : State} {m : MethodId} {args : Array Value} {below : List Frame} {meth : Method} {c : Code} {D : va_G} {cI cM : ClassId} {A : Nat → Prop} {a_this a_this_low a_this_high a_this_kind a_this_x a_this_y a_this_z : Nat} {v_rules : Int32} {v_unknowns : Int32} {r : Int32} (C0 : g_cx cX3_hasUnknown (some .boolean) 2 RX3 wsX3_hasUnknown p s m args meth c) (hA : ∀ q, s.heap.size ≤ q → A q) (hK : va_K D vwCl (g_tys cI cM) s) : ∀ (x1 : Int32) (H : Heap) (locs : List Loc) (ls : Array Slot), f_X3_hasUnknown v_unknowns x1 = some r → va_P D vwCl (ww_X3_hasUnknown cI cM a_this a_this_low a_this_high a_this_kind a_this_x a_this_y a_this_z v_unknowns v_rules) H → va_D A (ww_X3_hasUnknown cI cM a_this a_this_low a_this_high a_this_kind a_this_x a_this_y a_this_z v_unknowns v_rules) → va_S A s.heap H locs → lv_has ls 2 [(0, .ref a_this), (1, .int x1)] → W p l e rm_X3_hasUnknown s m args below meth c H locs 0 0 (MQ below (g_QI D (g_tys cI cM) A (ww_X3_hasUnknown cI cM a_this a_this_low a_this_high a_this_kind a_this_x a_this_y a_this_z v_unknowns v_rules) r) args s 0 0 A) (F0 m 0 ls []) := by
  obtain ⟨hx, hb, hr, hml, hown, hts, hlocks⟩ := id C0
  intro x1 H locs ls hf hP hD hS hl
  unfold f_X3_hasUnknown at hf
  refine lv_iload_n hx hb dX3_hasUnknown_0 rfl (lv_at hl 1 rfl) ?_
  refine lv_if_lt (tgt := 16) hx hb dX3_hasUnknown_1 (by decide) (fun c1 => ?_) (fun c1 => ?_)
  · replace hf := o_t c1 hf
    refine lv_iconst (v := 0) hx hb dX3_hasUnknown_16 (by decide) ?_
    have q0 := Option.some.inj hf
    subst q0
    exact g_zret hx hb hr hlocks (by decide) hP hD hK hS dX3_hasUnknown_17
  · replace hf := o_f c1 hf
    refine lv_iload_n hx hb dX3_hasUnknown_4 rfl (lv_at hl 1 rfl) ?_
    refine lv_aload_n hx hb dX3_hasUnknown_5 rfl (lv_at hl 0 rfl) ?_
    refine va_get (D := D) (ci := 2) (v := .int v_unknowns) (C := RX3) (T := TX3) (N := 8) hx hb hts (fun _ h => (List.mem_cons_of_mem _ (List.mem_append_right _ h))) hown hK hP 0 rfl rfl 0 (by decide) (hts (.fieldLink RX3 30 "FloatBoxes$Model" "unknowns" "I") (List.mem_cons_of_mem _ (List.mem_append_left _ (List.mem_of_getElem? (i := 0) rfl)))) (fun _ h9 => h9) rfl dX3_hasUnknown_6 ?_
    refine lv_icmp_ge (tgt := 16) hx hb dX3_hasUnknown_9 (by decide) (fun c9 => ?_) (fun c9 => ?_)
    · replace hf := o_t c9 hf
      refine lv_iconst (v := 0) hx hb dX3_hasUnknown_16 (by decide) ?_
      have q0 := Option.some.inj hf
      subst q0
      exact g_zret hx hb hr hlocks (by decide) hP hD hK hS dX3_hasUnknown_17
    · replace hf := o_f c9 hf
      refine lv_iconst (v := 1) hx hb dX3_hasUnknown_12 (by decide) ?_
      refine lv_goto (tgt := 17) hx hb dX3_hasUnknown_13 (by decide) ?_
      have q0 := Option.some.inj hf
      subst q0
      exact g_zret hx hb hr hlocks (by decide) hP hD hK hS dX3_hasUnknown_17
set_option maxHeartbeats 4000000 in
set_option maxRecDepth 100000 in
theorem c_X3_hasUnknown (l : Launch) (D : va_G) (cI cM : ClassId) (a_this a_this_low a_this_high a_this_kind a_this_x a_this_y a_this_z : Nat) (sz : Nat) (v_unknowns : Int32) (v_rules : Int32) {x1 : Int32} {r : Int32} (hf : f_X3_hasUnknown v_unknowns x1 = some r) : Met l yX3_hasUnknown wsX3_hasUnknown rm_X3_hasUnknown (g_Pc D (g_tys cI cM) (ww_X3_hasUnknown cI cM a_this a_this_low a_this_high a_this_kind a_this_x a_this_y a_this_z v_unknowns v_rules) sz [.ref a_this, .int x1]) (g_QI D (g_tys cI cM) (va_A (ww_X3_hasUnknown cI cM a_this a_this_low a_this_high a_this_kind a_this_x a_this_y a_this_z v_unknowns v_rules) sz) (ww_X3_hasUnknown cI cM a_this a_this_low a_this_high a_this_kind a_this_x a_this_y a_this_z v_unknowns v_rules) r) 0 0 (va_A (ww_X3_hasUnknown cI cM a_this a_this_low a_this_high a_this_kind a_this_x a_this_y a_this_z v_unknowns v_rules) sz) := by
  refine g_met (cc := cX3_hasUnknown) (maxL := 2) (ret := (some .boolean)) (Qc := fun D A => g_QI D (g_tys cI cM) A (ww_X3_hasUnknown cI cM a_this a_this_low a_this_high a_this_kind a_this_x a_this_y a_this_z v_unknowns v_rules) r) (by decide) rfl ?_
  intro p e s m below meth c A C0 hA hK hP hD
  have hl := lv_entry ([.ref a_this, .int x1]) (n := 2) (Nat.le_of_ble_eq_true rfl)
  rw [lg_entry_eq]
  generalize (lg_sl ([.ref a_this, .int x1]) ++ List.replicate (2 - (lg_sl ([.ref a_this, .int x1])).length) Slot.unset).toArray = ls at hl ⊢
  have hl : lv_has ls 2 [(0, .ref a_this), (1, .int x1)] := hl
  exact w_X3_hasUnknown_B0 C0 hA hK x1 s.heap [] ls hf hP hD va_S.rf (lv_sub hl [0, 1] rfl)
/-! FloatBoxes$Model.hasRule(I)Z -/
abbrev rm_X3_hasRule : Room := { frames := 0, cells := 0, slots := 0, locals := 0 }
abbrev ww_X3_hasRule (cI cM : ClassId) (a_this a_this_low a_this_high a_this_kind a_this_x a_this_y a_this_z : Nat) (v_unknowns : Int32) (v_rules : Int32) : va_W := [(a_this, .inr (2, [.int v_unknowns, .int v_rules, .ref a_this_low, .ref a_this_high, .ref a_this_kind, .ref a_this_x, .ref a_this_y, .ref a_this_z]))]
def f_X3_hasRule (v_rules : Int32) (x1 : Int32) : Option (Int32) :=
  if x1 < 0 then
    some 0
  else
    if v_rules ≤ x1 then
      some 0
    else
      some 1
set_option maxHeartbeats 4000000 in
set_option maxRecDepth 100000 in
theorem w_X3_hasRule_B0 {p : Program} {l : Launch} {e : Env} {s : State} {m : MethodId} {args : Array Value} {below : List Frame} {meth : Method} {c : Code} {D : va_G} {cI cM : ClassId} {A : Nat → Prop} {a_this a_this_low a_this_high a_this_kind a_this_x a_this_y a_this_z : Nat} {v_unknowns : Int32} {v_rules : Int32} {r : Int32} (C0 : g_cx cX3_hasRule (some .boolean) 2 RX3 wsX3_hasRule p s m args meth c) (hA : ∀ q, s.heap.size ≤ q → A q) (hK : va_K D vwCl (g_tys cI cM) s) : ∀ (x1 : Int32) (H : Heap) (locs : List Loc) (ls : Array Slot), f_X3_hasRule v_rules x1 = some r → va_P D vwCl (ww_X3_hasRule cI cM a_this a_this_low a_this_high a_this_kind a_this_x a_this_y a_this_z v_unknowns v_rules) H → va_D A (ww_X3_hasRule cI cM a_this a_this_low a_this_high a_this_kind a_this_x a_this_y a_this_z v_unknowns v_rules) → va_S A s.heap H locs → lv_has ls 2 [(0, .ref a_this), (1, .int x1)] → W p l e rm_X3_hasRule s m args below meth c H locs 0 0 (MQ below (g_QI D (g_tys cI cM) A (ww_X3_hasRule cI cM a_this a_this_low a_this_high a_this_kind a_this_x a_this_y a_this_z v_unknowns v_rules) r) args s 0 0 A) (F0 m 0 ls []) := by
  obtain ⟨hx, hb, hr, hml, hown, hts, hlocks⟩ := id C0
  intro x1 H locs ls hf hP hD hS hl
  unfold f_X3_hasRule at hf
  refine lv_iload_n hx hb dX3_hasRule_0 rfl (lv_at hl 1 rfl) ?_
  refine lv_if_lt (tgt := 16) hx hb dX3_hasRule_1 (by decide) (fun c1 => ?_) (fun c1 => ?_)
  · replace hf := o_t c1 hf
    refine lv_iconst (v := 0) hx hb dX3_hasRule_16 (by decide) ?_
    have q0 := Option.some.inj hf
    subst q0
    exact g_zret hx hb hr hlocks (by decide) hP hD hK hS dX3_hasRule_17
  · replace hf := o_f c1 hf
    refine lv_iload_n hx hb dX3_hasRule_4 rfl (lv_at hl 1 rfl) ?_
    refine lv_aload_n hx hb dX3_hasRule_5 rfl (lv_at hl 0 rfl) ?_
    refine va_get (D := D) (ci := 2) (v := .int v_rules) (C := RX3) (T := TX3) (N := 8) hx hb hts (fun _ h => (List.mem_cons_of_mem _ (List.mem_append_right _ h))) hown hK hP 0 rfl rfl 1 (by decide) (hts (.fieldLink RX3 34 "FloatBoxes$Model" "rules" "I") (List.mem_cons_of_mem _ (List.mem_append_left _ (List.mem_of_getElem? (i := 0) rfl)))) (fun _ h9 => h9) rfl dX3_hasRule_6 ?_
    refine lv_icmp_ge (tgt := 16) hx hb dX3_hasRule_9 (by decide) (fun c9 => ?_) (fun c9 => ?_)
    · replace hf := o_t c9 hf
      refine lv_iconst (v := 0) hx hb dX3_hasRule_16 (by decide) ?_
      have q0 := Option.some.inj hf
      subst q0
      exact g_zret hx hb hr hlocks (by decide) hP hD hK hS dX3_hasRule_17
    · replace hf := o_f c9 hf
      refine lv_iconst (v := 1) hx hb dX3_hasRule_12 (by decide) ?_
      refine lv_goto (tgt := 17) hx hb dX3_hasRule_13 (by decide) ?_
      have q0 := Option.some.inj hf
      subst q0
      exact g_zret hx hb hr hlocks (by decide) hP hD hK hS dX3_hasRule_17
set_option maxHeartbeats 4000000 in
set_option maxRecDepth 100000 in
theorem c_X3_hasRule (l : Launch) (D : va_G) (cI cM : ClassId) (a_this a_this_low a_this_high a_this_kind a_this_x a_this_y a_this_z : Nat) (sz : Nat) (v_unknowns : Int32) (v_rules : Int32) {x1 : Int32} {r : Int32} (hf : f_X3_hasRule v_rules x1 = some r) : Met l yX3_hasRule wsX3_hasRule rm_X3_hasRule (g_Pc D (g_tys cI cM) (ww_X3_hasRule cI cM a_this a_this_low a_this_high a_this_kind a_this_x a_this_y a_this_z v_unknowns v_rules) sz [.ref a_this, .int x1]) (g_QI D (g_tys cI cM) (va_A (ww_X3_hasRule cI cM a_this a_this_low a_this_high a_this_kind a_this_x a_this_y a_this_z v_unknowns v_rules) sz) (ww_X3_hasRule cI cM a_this a_this_low a_this_high a_this_kind a_this_x a_this_y a_this_z v_unknowns v_rules) r) 0 0 (va_A (ww_X3_hasRule cI cM a_this a_this_low a_this_high a_this_kind a_this_x a_this_y a_this_z v_unknowns v_rules) sz) := by
  refine g_met (cc := cX3_hasRule) (maxL := 2) (ret := (some .boolean)) (Qc := fun D A => g_QI D (g_tys cI cM) A (ww_X3_hasRule cI cM a_this a_this_low a_this_high a_this_kind a_this_x a_this_y a_this_z v_unknowns v_rules) r) (by decide) rfl ?_
  intro p e s m below meth c A C0 hA hK hP hD
  have hl := lv_entry ([.ref a_this, .int x1]) (n := 2) (Nat.le_of_ble_eq_true rfl)
  rw [lg_entry_eq]
  generalize (lg_sl ([.ref a_this, .int x1]) ++ List.replicate (2 - (lg_sl ([.ref a_this, .int x1])).length) Slot.unset).toArray = ls at hl ⊢
  have hl : lv_has ls 2 [(0, .ref a_this), (1, .int x1)] := hl
  exact w_X3_hasRule_B0 C0 hA hK x1 s.heap [] ls hf hP hD va_S.rf (lv_sub hl [0, 1] rfl)
/-! FloatBoxes$Model.refusalOfUnknown(II)I -/
abbrev rm_X3_refusalOfUnknown : Room := { frames := 2, cells := 0, slots := 0, locals := 41 }
abbrev ww_X3_refusalOfUnknown (cI cM : ClassId) (a_this a_this_low a_this_high a_this_kind a_this_x a_this_y a_this_z : Nat) (v_unknowns : Int32) (v_rules : Int32) : va_W := [(a_this, .inr (2, [.int v_unknowns, .int v_rules, .ref a_this_low, .ref a_this_high, .ref a_this_kind, .ref a_this_x, .ref a_this_y, .ref a_this_z]))]
def f_X3_refusalOfUnknown (v_unknowns : Int32) (x1 : Int32) (x2 : Int32) : Option (Int32) :=
  o_b1 (f_X4_isRange x1 x2) (fun (r2 : Int32) =>
  if r2 = 0 then
    some ((-2139095050))
  else
    if v_unknowns < 6 then
      some 0
    else
      some ((-2139095052)))
set_option maxHeartbeats 4000000 in
set_option maxRecDepth 100000 in
theorem w_X3_refusalOfUnknown_B0 {p : Program} {l : Launch} {e : Env} {s : State} {m : MethodId} {args : Array Value} {below : List Frame} {meth : Method} {c : Code} {D : va_G} {cI cM : ClassId} {A : Nat → Prop} {a_this a_this_low a_this_high a_this_kind a_this_x a_this_y a_this_z : Nat} {v_rules : Int32} {v_unknowns : Int32} {r : Int32} (C0 : g_cx cX3_refusalOfUnknown (some .int) 3 RX3 wsX3_refusalOfUnknown p s m args meth c) (hA : ∀ q, s.heap.size ≤ q → A q) (hK : va_K D vwCl (g_tys cI cM) s) : ∀ (x1 : Int32) (x2 : Int32) (H : Heap) (locs : List Loc) (ls : Array Slot), f_X3_refusalOfUnknown v_unknowns x1 x2 = some r → va_P D vwCl (ww_X3_refusalOfUnknown cI cM a_this a_this_low a_this_high a_this_kind a_this_x a_this_y a_this_z v_unknowns v_rules) H → va_D A (ww_X3_refusalOfUnknown cI cM a_this a_this_low a_this_high a_this_kind a_this_x a_this_y a_this_z v_unknowns v_rules) → va_S A s.heap H locs → lv_has ls 3 [(0, .ref a_this), (1, .int x1), (2, .int x2)] → W p l e rm_X3_refusalOfUnknown s m args below meth c H locs 0 0 (MQ below (g_QI D (g_tys cI cM) A (ww_X3_refusalOfUnknown cI cM a_this a_this_low a_this_high a_this_kind a_this_x a_this_y a_this_z v_unknowns v_rules) r) args s 0 0 A) (F0 m 0 ls []) := by
  obtain ⟨hx, hb, hr, hml, hown, hts, hlocks⟩ := id C0
  intro x1 x2 H locs ls hf hP hD hS hl
  unfold f_X3_refusalOfUnknown at hf
  refine lv_iload_n hx hb dX3_refusalOfUnknown_0 rfl (lv_at hl 1 rfl) ?_
  refine lv_iload_n hx hb dX3_refusalOfUnknown_1 rfl (lv_at hl 2 rfl) ?_
  obtain ⟨r2, hg2, hf⟩ := o_b1_go hf
  refine g_callSi (rest := []) ⟨hx, hb, hml, hown, hts⟩ (c_X4_isRange l hg2) (va_cwS 2 hts gX3_refusalOfUnknown_X4_isRange rfl rfl rfl (by decide +kernel) ⟨Nat.le_of_ble_eq_true rfl, Nat.le_of_ble_eq_true rfl⟩) rfl hl.1 rfl (Nat.le_of_ble_eq_true rfl) dX3_refusalOfUnknown_2 ?_
  refine lv_if_ne (tgt := 11) hx hb dX3_refusalOfUnknown_5 (by decide) (fun c5 => ?_) (fun c5 => ?_)
  · replace hf := o_f c5 hf
    refine lv_aload_n hx hb dX3_refusalOfUnknown_11 rfl (lv_at hl 0 rfl) ?_
    refine va_get (D := D) (ci := 2) (v := .int v_unknowns) (C := RX3) (T := TX3) (N := 8) hx hb hts (fun _ h => (List.mem_cons_of_mem _ (List.mem_append_right _ h))) hown hK hP 0 rfl rfl 0 (by decide) (hts (.fieldLink RX3 30 "FloatBoxes$Model" "unknowns" "I") (List.mem_cons_of_mem _ (List.mem_append_left _ (List.mem_of_getElem? (i := 1) rfl)))) (fun _ h9 => h9) rfl dX3_refusalOfUnknown_12 ?_
    refine lv_bipush (v := 6) hx hb dX3_refusalOfUnknown_15 (by decide) ?_
    refine lv_icmp_lt (tgt := 25) hx hb dX3_refusalOfUnknown_17 (by decide) (fun c17 => ?_) (fun c17 => ?_)
    · replace hf := o_t c17 hf
      refine lv_iconst (v := 0) hx hb dX3_refusalOfUnknown_25 (by decide) ?_
      have q0 := Option.some.inj hf
      subst q0
      exact g_iret hx hb hr hlocks hP hD hK hS dX3_refusalOfUnknown_26
    · replace hf := o_f c17 hf
      refine lv_ldc (v := (-2139095052)) hx hb hown (hts (.constant RX3 50 (-2139095052)) (List.mem_cons_of_mem _ (List.mem_append_left _ (List.mem_of_getElem? (i := 2) rfl)))) dX3_refusalOfUnknown_20 ?_
      refine lv_goto (tgt := 26) hx hb dX3_refusalOfUnknown_22 (by decide) ?_
      have q0 := Option.some.inj hf
      subst q0
      exact g_iret hx hb hr hlocks hP hD hK hS dX3_refusalOfUnknown_26
  · replace hf := o_t c5 hf
    refine lv_ldc (v := (-2139095050)) hx hb hown (hts (.constant RX3 49 (-2139095050)) (List.mem_cons_of_mem _ (List.mem_append_left _ (List.mem_of_getElem? (i := 0) rfl)))) dX3_refusalOfUnknown_8 ?_
    have q0 := Option.some.inj hf
    subst q0
    exact g_iret hx hb hr hlocks hP hD hK hS dX3_refusalOfUnknown_10
set_option maxHeartbeats 4000000 in
set_option maxRecDepth 100000 in
theorem c_X3_refusalOfUnknown (l : Launch) (D : va_G) (cI cM : ClassId) (a_this a_this_low a_this_high a_this_kind a_this_x a_this_y a_this_z : Nat) (sz : Nat) (v_unknowns : Int32) (v_rules : Int32) {x1 : Int32} {x2 : Int32} {r : Int32} (hf : f_X3_refusalOfUnknown v_unknowns x1 x2 = some r) : Met l yX3_refusalOfUnknown wsX3_refusalOfUnknown rm_X3_refusalOfUnknown (g_Pc D (g_tys cI cM) (ww_X3_refusalOfUnknown cI cM a_this a_this_low a_this_high a_this_kind a_this_x a_this_y a_this_z v_unknowns v_rules) sz [.ref a_this, .int x1, .int x2]) (g_QI D (g_tys cI cM) (va_A (ww_X3_refusalOfUnknown cI cM a_this a_this_low a_this_high a_this_kind a_this_x a_this_y a_this_z v_unknowns v_rules) sz) (ww_X3_refusalOfUnknown cI cM a_this a_this_low a_this_high a_this_kind a_this_x a_this_y a_this_z v_unknowns v_rules) r) 0 0 (va_A (ww_X3_refusalOfUnknown cI cM a_this a_this_low a_this_high a_this_kind a_this_x a_this_y a_this_z v_unknowns v_rules) sz) := by
  refine g_met (cc := cX3_refusalOfUnknown) (maxL := 3) (ret := (some .int)) (Qc := fun D A => g_QI D (g_tys cI cM) A (ww_X3_refusalOfUnknown cI cM a_this a_this_low a_this_high a_this_kind a_this_x a_this_y a_this_z v_unknowns v_rules) r) (by decide) rfl ?_
  intro p e s m below meth c A C0 hA hK hP hD
  have hl := lv_entry ([.ref a_this, .int x1, .int x2]) (n := 3) (Nat.le_of_ble_eq_true rfl)
  rw [lg_entry_eq]
  generalize (lg_sl ([.ref a_this, .int x1, .int x2]) ++ List.replicate (3 - (lg_sl ([.ref a_this, .int x1, .int x2])).length) Slot.unset).toArray = ls at hl ⊢
  have hl : lv_has ls 3 [(0, .ref a_this), (1, .int x1), (2, .int x2)] := hl
  exact w_X3_refusalOfUnknown_B0 C0 hA hK x1 x2 s.heap [] ls hf hP hD va_S.rf (lv_sub hl [0, 1, 2] rfl)
/-! FloatBoxes$Model.addUnknown(II)I -/
abbrev rm_X3_addUnknown : Room := { frames := 0, cells := 0, slots := 0, locals := 0 }
abbrev ww_X3_addUnknown (cI cM : ClassId) (a_this a_this_low a_this_high a_this_kind a_this_x a_this_y a_this_z : Nat) (v_unknowns : Int32) (v_rules : Int32) (v_low : Nat → Int32) (v_high : Nat → Int32) : va_W := [(a_this, .inr (2, [.int v_unknowns, .int v_rules, .ref a_this_low, .ref a_this_high, .ref a_this_kind, .ref a_this_x, .ref a_this_y, .ref a_this_z])), (a_this_low, .inl (cI, 6, .inl v_low)), (a_this_high, .inl (cI, 6, .inl v_high))]
def f_X3_addUnknown  (v_unknowns : Int32) (v_low : Nat → Int32) (v_high : Nat → Int32) (x1 : Int32) (x2 : Int32) : Option (Int32 × Int32 × (Nat → Int32) × (Nat → Int32)) :=
  o_in v_unknowns 6 (
  o_in v_unknowns 6 (
  some ((v_unknowns + 1) - 1, v_unknowns + 1, upd v_low v_unknowns.toNatClampNeg x1, upd v_high v_unknowns.toNatClampNeg x2)))
set_option maxHeartbeats 4000000 in
set_option maxRecDepth 100000 in
theorem w_X3_addUnknown_B0 {p : Program} {l : Launch} {e : Env} {s : State} {m : MethodId} {args : Array Value} {below : List Frame} {meth : Method} {c : Code} {D : va_G} {cI cM : ClassId} {A : Nat → Prop} {a_this a_this_low a_this_high a_this_kind a_this_x a_this_y a_this_z : Nat} {v_rules : Int32} {r : Int32} {o_unknowns : Int32} {o_low : Nat → Int32} {o_high : Nat → Int32} (C0 : g_cx cX3_addUnknown (some .int) 3 RX3 wsX3_addUnknown p s m args meth c) (hA : ∀ q, s.heap.size ≤ q → A q) (hK : va_K D vwCl (g_tys cI cM) s) : ∀ (v_unknowns : Int32) (v_low : Nat → Int32) (v_high : Nat → Int32) (x1 : Int32) (x2 : Int32) (H : Heap) (locs : List Loc) (ls : Array Slot), f_X3_addUnknown v_unknowns v_low v_high x1 x2 = some (r, o_unknowns, o_low, o_high) → va_P D vwCl (ww_X3_addUnknown cI cM a_this a_this_low a_this_high a_this_kind a_this_x a_this_y a_this_z v_unknowns v_rules v_low v_high) H → va_D A (ww_X3_addUnknown cI cM a_this a_this_low a_this_high a_this_kind a_this_x a_this_y a_this_z v_unknowns v_rules v_low v_high) → va_S A s.heap H locs → lv_has ls 3 [(0, .ref a_this), (1, .int x1), (2, .int x2)] → W p l e rm_X3_addUnknown s m args below meth c H locs 0 0 (MQ below (g_QI D (g_tys cI cM) A (ww_X3_addUnknown cI cM a_this a_this_low a_this_high a_this_kind a_this_x a_this_y a_this_z o_unknowns v_rules o_low o_high) r) args s 0 0 A) (F0 m 0 ls []) := by
  obtain ⟨hx, hb, hr, hml, hown, hts, hlocks⟩ := id C0
  intro v_unknowns v_low v_high x1 x2 H locs ls hf hP hD hS hl
  unfold f_X3_addUnknown at hf
  refine lv_aload_n hx hb dX3_addUnknown_0 rfl (lv_at hl 0 rfl) ?_
  refine va_get (D := D) (ci := 2) (v := .ref a_this_low) (C := RX3) (T := TX3) (N := 8) hx hb hts (fun _ h => (List.mem_cons_of_mem _ (List.mem_append_right _ h))) hown hK hP 0 rfl rfl 2 (by decide) (hts (.fieldLink RX3 9 "FloatBoxes$Model" "low" "[I") (List.mem_cons_of_mem _ (List.mem_append_left _ (List.mem_of_getElem? (i := 0) rfl)))) (fun _ h9 => h9) rfl dX3_addUnknown_1 ?_
  refine lv_aload_n hx hb dX3_addUnknown_4 rfl (lv_at hl 0 rfl) ?_
  refine va_get (D := D) (ci := 2) (v := .int v_unknowns) (C := RX3) (T := TX3) (N := 8) hx hb hts (fun _ h => (List.mem_cons_of_mem _ (List.mem_append_right _ h))) hown hK hP 0 rfl rfl 0 (by decide) (hts (.fieldLink RX3 30 "FloatBoxes$Model" "unknowns" "I") (List.mem_cons_of_mem _ (List.mem_append_left _ (List.mem_of_getElem? (i := 1) rfl)))) (fun _ h9 => h9) rfl dX3_addUnknown_5 ?_
  refine lv_iload_n hx hb dX3_addUnknown_8 rfl (lv_at hl 1 rfl) ?_
  obtain ⟨h9, hf⟩ := o_in_go hf
  refine va_iast hx hb hK hP hD hS 1 0 rfl rfl h9 dX3_addUnknown_9 (fun H locs hP hD hS => ?_)
  replace hP : va_P D vwCl (ww_X3_addUnknown cI cM a_this a_this_low a_this_high a_this_kind a_this_x a_this_y a_this_z v_unknowns v_rules (upd v_low v_unknowns.toNatClampNeg x1) v_high) H := hP
  replace hD : va_D A (ww_X3_addUnknown cI cM a_this a_this_low a_this_high a_this_kind a_this_x a_this_y a_this_z v_unknowns v_rules (upd v_low v_unknowns.toNatClampNeg x1) v_high) := hD
  refine lv_aload_n hx hb dX3_addUnknown_10 rfl (lv_at hl 0 rfl) ?_
  refine va_get (D := D) (ci := 2) (v := .ref a_this_high) (C := RX3) (T := TX3) (N := 8) hx hb hts (fun _ h => (List.mem_cons_of_mem _ (List.mem_append_right _ h))) hown hK hP 0 rfl rfl 3 (by decide) (hts (.fieldLink RX3 15 "FloatBoxes$Model" "high" "[I") (List.mem_cons_of_mem _ (List.mem_append_left _ (List.mem_of_getElem? (i := 2) rfl)))) (fun _ h9 => h9) rfl dX3_addUnknown_11 ?_
  refine lv_aload_n hx hb dX3_addUnknown_14 rfl (lv_at hl 0 rfl) ?_
  refine va_get (D := D) (ci := 2) (v := .int v_unknowns) (C := RX3) (T := TX3) (N := 8) hx hb hts (fun _ h => (List.mem_cons_of_mem _ (List.mem_append_right _ h))) hown hK hP 0 rfl rfl 0 (by decide) (hts (.fieldLink RX3 30 "FloatBoxes$Model" "unknowns" "I") (List.mem_cons_of_mem _ (List.mem_append_left _ (List.mem_of_getElem? (i := 1) rfl)))) (fun _ h9 => h9) rfl dX3_addUnknown_15 ?_
  refine lv_iload_n hx hb dX3_addUnknown_18 rfl (lv_at hl 2 rfl) ?_
  obtain ⟨h19, hf⟩ := o_in_go hf
  refine va_iast hx hb hK hP hD hS 2 0 rfl rfl h19 dX3_addUnknown_19 (fun H locs hP hD hS => ?_)
  replace hP : va_P D vwCl (ww_X3_addUnknown cI cM a_this a_this_low a_this_high a_this_kind a_this_x a_this_y a_this_z v_unknowns v_rules (upd v_low v_unknowns.toNatClampNeg x1) (upd v_high v_unknowns.toNatClampNeg x2)) H := hP
  replace hD : va_D A (ww_X3_addUnknown cI cM a_this a_this_low a_this_high a_this_kind a_this_x a_this_y a_this_z v_unknowns v_rules (upd v_low v_unknowns.toNatClampNeg x1) (upd v_high v_unknowns.toNatClampNeg x2)) := hD
  refine lv_aload_n hx hb dX3_addUnknown_20 rfl (lv_at hl 0 rfl) ?_
  refine lv_dup hx hb dX3_addUnknown_21 rfl ?_
  refine va_get (D := D) (ci := 2) (v := .int v_unknowns) (C := RX3) (T := TX3) (N := 8) hx hb hts (fun _ h => (List.mem_cons_of_mem _ (List.mem_append_right _ h))) hown hK hP 0 rfl rfl 0 (by decide) (hts (.fieldLink RX3 30 "FloatBoxes$Model" "unknowns" "I") (List.mem_cons_of_mem _ (List.mem_append_left _ (List.mem_of_getElem? (i := 1) rfl)))) (fun _ h9 => h9) rfl dX3_addUnknown_22 ?_
  refine lv_iconst (v := 1) hx hb dX3_addUnknown_25 (by decide) ?_
  refine lv_iadd hx hb dX3_addUnknown_26 ?_
  refine va_put (D := D) (ci := 2) (v := .int (v_unknowns + 1)) (ty := .int) (C := RX3) (T := TX3) (N := 8) hx hb hts (fun _ h => (List.mem_cons_of_mem _ (List.mem_append_right _ h))) tyX3 tyX3_ok nmX3 hown hK hP hD hS 0 rfl rfl 0 (by decide) (hts (.fieldLink RX3 30 "FloatBoxes$Model" "unknowns" "I") (List.mem_cons_of_mem _ (List.mem_append_left _ (List.mem_of_getElem? (i := 1) rfl)))) (fun _ h9 => h9) rfl (by decide +kernel) rfl rfl (Nat.le_of_ble_eq_true rfl) dX3_addUnknown_27 (fun H locs hP hD hS => ?_)
  replace hP : va_P D vwCl (ww_X3_addUnknown cI cM a_this a_this_low a_this_high a_this_kind a_this_x a_this_y a_this_z (v_unknowns + 1) v_rules (upd v_low v_unknowns.toNatClampNeg x1) (upd v_high v_unknowns.toNatClampNeg x2)) H := hP
  replace hD : va_D A (ww_X3_addUnknown cI cM a_this a_this_low a_this_high a_this_kind a_this_x a_this_y a_this_z (v_unknowns + 1) v_rules (upd v_low v_unknowns.toNatClampNeg x1) (upd v_high v_unknowns.toNatClampNeg x2)) := hD
  refine lv_aload_n hx hb dX3_addUnknown_30 rfl (lv_at hl 0 rfl) ?_
  refine va_get (D := D) (ci := 2) (v := .int (v_unknowns + 1)) (C := RX3) (T := TX3) (N := 8) hx hb hts (fun _ h => (List.mem_cons_of_mem _ (List.mem_append_right _ h))) hown hK hP 0 rfl rfl 0 (by decide) (hts (.fieldLink RX3 30 "FloatBoxes$Model" "unknowns" "I") (List.mem_cons_of_mem _ (List.mem_append_left _ (List.mem_of_getElem? (i := 1) rfl)))) (fun _ h9 => h9) rfl dX3_addUnknown_31 ?_
  refine lv_iconst (v := 1) hx hb dX3_addUnknown_34 (by decide) ?_
  refine lv_isub hx hb dX3_addUnknown_35 ?_
  obtain ⟨q0, y0⟩ := o_rp hf
  obtain ⟨q1, y1⟩ := o_rp y0
  obtain ⟨q2, y2⟩ := o_rp y1
  have q3 := Option.some.inj y2
  subst q0 q1 q2 q3
  exact g_iret hx hb hr hlocks hP hD hK hS dX3_addUnknown_36
set_option maxHeartbeats 4000000 in
set_option maxRecDepth 100000 in
theorem c_X3_addUnknown (l : Launch) (D : va_G) (cI cM : ClassId) (a_this a_this_low a_this_high a_this_kind a_this_x a_this_y a_this_z : Nat) (sz : Nat) (v_unknowns : Int32) (v_rules : Int32) (v_low : Nat → Int32) (v_high : Nat → Int32) {x1 : Int32} {x2 : Int32} {r : Int32} {o_unknowns : Int32} {o_low : Nat → Int32} {o_high : Nat → Int32} (hf : f_X3_addUnknown v_unknowns v_low v_high x1 x2 = some (r, o_unknowns, o_low, o_high)) : Met l yX3_addUnknown wsX3_addUnknown rm_X3_addUnknown (g_Pc D (g_tys cI cM) (ww_X3_addUnknown cI cM a_this a_this_low a_this_high a_this_kind a_this_x a_this_y a_this_z v_unknowns v_rules v_low v_high) sz [.ref a_this, .int x1, .int x2]) (g_QI D (g_tys cI cM) (va_A (ww_X3_addUnknown cI cM a_this a_this_low a_this_high a_this_kind a_this_x a_this_y a_this_z v_unknowns v_rules v_low v_high) sz) (ww_X3_addUnknown cI cM a_this a_this_low a_this_high a_this_kind a_this_x a_this_y a_this_z o_unknowns v_rules o_low o_high) r) 0 0 (va_A (ww_X3_addUnknown cI cM a_this a_this_low a_this_high a_this_kind a_this_x a_this_y a_this_z v_unknowns v_rules v_low v_high) sz) := by
  refine g_met (cc := cX3_addUnknown) (maxL := 3) (ret := (some .int)) (Qc := fun D A => g_QI D (g_tys cI cM) A (ww_X3_addUnknown cI cM a_this a_this_low a_this_high a_this_kind a_this_x a_this_y a_this_z o_unknowns v_rules o_low o_high) r) (by decide) rfl ?_
  intro p e s m below meth c A C0 hA hK hP hD
  have hl := lv_entry ([.ref a_this, .int x1, .int x2]) (n := 3) (Nat.le_of_ble_eq_true rfl)
  rw [lg_entry_eq]
  generalize (lg_sl ([.ref a_this, .int x1, .int x2]) ++ List.replicate (3 - (lg_sl ([.ref a_this, .int x1, .int x2])).length) Slot.unset).toArray = ls at hl ⊢
  have hl : lv_has ls 3 [(0, .ref a_this), (1, .int x1), (2, .int x2)] := hl
  exact w_X3_addUnknown_B0 C0 hA hK v_unknowns v_low v_high x1 x2 s.heap [] ls hf hP hD va_S.rf (lv_sub hl [0, 1, 2] rfl)
/-! FloatBoxes$Model.refusalOfRule(IIII)I -/
abbrev rm_X3_refusalOfRule : Room := { frames := 1, cells := 0, slots := 0, locals := 21 }
abbrev ww_X3_refusalOfRule (cI cM : ClassId) (a_this a_this_low a_this_high a_this_kind a_this_x a_this_y a_this_z : Nat) (v_unknowns : Int32) (v_rules : Int32) : va_W := [(a_this, .inr (2, [.int v_unknowns, .int v_rules, .ref a_this_low, .ref a_this_high, .ref a_this_kind, .ref a_this_x, .ref a_this_y, .ref a_this_z]))]
def f_X3_refusalOfRule_B53 (v_unknowns : Int32) (v_rules : Int32) : Option (Int32) :=
  if v_rules < 6 then
    some 0
  else
    some ((-2139095052))
set_option maxHeartbeats 4000000 in
set_option maxRecDepth 100000 in
theorem w_X3_refusalOfRule_B53 {p : Program} {l : Launch} {e : Env} {s : State} {m : MethodId} {args : Array Value} {below : List Frame} {meth : Method} {c : Code} {D : va_G} {cI cM : ClassId} {A : Nat → Prop} {a_this a_this_low a_this_high a_this_kind a_this_x a_this_y a_this_z : Nat} {v_unknowns : Int32} {v_rules : Int32} {r : Int32} (C0 : g_cx cX3_refusalOfRule (some .int) 5 RX3 wsX3_refusalOfRule p s m args meth c) (hA : ∀ q, s.heap.size ≤ q → A q) (hK : va_K D vwCl (g_tys cI cM) s) : ∀ (H : Heap) (locs : List Loc) (ls : Array Slot), f_X3_refusalOfRule_B53 v_unknowns v_rules = some r → va_P D vwCl (ww_X3_refusalOfRule cI cM a_this a_this_low a_this_high a_this_kind a_this_x a_this_y a_this_z v_unknowns v_rules) H → va_D A (ww_X3_refusalOfRule cI cM a_this a_this_low a_this_high a_this_kind a_this_x a_this_y a_this_z v_unknowns v_rules) → va_S A s.heap H locs → lv_has ls 5 [(0, .ref a_this)] → W p l e rm_X3_refusalOfRule s m args below meth c H locs 0 0 (MQ below (g_QI D (g_tys cI cM) A (ww_X3_refusalOfRule cI cM a_this a_this_low a_this_high a_this_kind a_this_x a_this_y a_this_z v_unknowns v_rules) r) args s 0 0 A) (F0 m 53 ls []) := by
  obtain ⟨hx, hb, hr, hml, hown, hts, hlocks⟩ := id C0
  intro H locs ls hf hP hD hS hl
  unfold f_X3_refusalOfRule_B53 at hf
  refine lv_aload_n hx hb dX3_refusalOfRule_53 rfl (lv_at hl 0 rfl) ?_
  refine va_get (D := D) (ci := 2) (v := .int v_rules) (C := RX3) (T := TX3) (N := 8) hx hb hts (fun _ h => (List.mem_cons_of_mem _ (List.mem_append_right _ h))) hown hK hP 0 rfl rfl 1 (by decide) (hts (.fieldLink RX3 34 "FloatBoxes$Model" "rules" "I") (List.mem_cons_of_mem _ (List.mem_append_left _ (List.mem_of_getElem? (i := 1) rfl)))) (fun _ h9 => h9) rfl dX3_refusalOfRule_54 ?_
  refine lv_bipush (v := 6) hx hb dX3_refusalOfRule_57 (by decide) ?_
  refine lv_icmp_lt (tgt := 67) hx hb dX3_refusalOfRule_59 (by decide) (fun c59 => ?_) (fun c59 => ?_)
  · replace hf := o_t c59 hf
    refine lv_iconst (v := 0) hx hb dX3_refusalOfRule_67 (by decide) ?_
    have q0 := Option.some.inj hf
    subst q0
    exact g_iret hx hb hr hlocks hP hD hK hS dX3_refusalOfRule_68
  · replace hf := o_f c59 hf
    refine lv_ldc (v := (-2139095052)) hx hb hown (hts (.constant RX3 50 (-2139095052)) (List.mem_cons_of_mem _ (List.mem_append_left _ (List.mem_of_getElem? (i := 2) rfl)))) dX3_refusalOfRule_62 ?_
    refine lv_goto (tgt := 68) hx hb dX3_refusalOfRule_64 (by decide) ?_
    have q0 := Option.some.inj hf
    subst q0
    exact g_iret hx hb hr hlocks hP hD hK hS dX3_refusalOfRule_68
def f_X3_refusalOfRule (v_unknowns : Int32) (v_rules : Int32) (x1 : Int32) (x2 : Int32) (x3 : Int32) (x4 : Int32) : Option (Int32) :=
  if x1 < 0 then
    some ((-2139095050))
  else
    if 5 < x1 then
      some ((-2139095050))
    else
      o_b1 (f_X3_hasUnknown v_unknowns x2) (fun (r11 : Int32) =>
      if r11 = 0 then
        some ((-2139095050))
      else
        o_b1 (f_X3_hasUnknown v_unknowns x3) (fun (r19 : Int32) =>
        if r19 = 0 then
          some ((-2139095050))
        else
          if 3 ≤ x1 then
            if x4 = 0 then
              f_X3_refusalOfRule_B53 v_unknowns v_rules
            else
              some ((-2139095050))
          else
            o_b1 (f_X3_hasUnknown v_unknowns x4) (fun (r36 : Int32) =>
            if r36 = 0 then
              some ((-2139095050))
            else
              f_X3_refusalOfRule_B53 v_unknowns v_rules)))
set_option maxHeartbeats 4000000 in
set_option maxRecDepth 100000 in
theorem w_X3_refusalOfRule_B0 {p : Program} {l : Launch} {e : Env} {s : State} {m : MethodId} {args : Array Value} {below : List Frame} {meth : Method} {c : Code} {D : va_G} {cI cM : ClassId} {A : Nat → Prop} {a_this a_this_low a_this_high a_this_kind a_this_x a_this_y a_this_z : Nat} {v_unknowns : Int32} {v_rules : Int32} {r : Int32} (C0 : g_cx cX3_refusalOfRule (some .int) 5 RX3 wsX3_refusalOfRule p s m args meth c) (hA : ∀ q, s.heap.size ≤ q → A q) (hK : va_K D vwCl (g_tys cI cM) s) : ∀ (x1 : Int32) (x2 : Int32) (x3 : Int32) (x4 : Int32) (H : Heap) (locs : List Loc) (ls : Array Slot), f_X3_refusalOfRule v_unknowns v_rules x1 x2 x3 x4 = some r → va_P D vwCl (ww_X3_refusalOfRule cI cM a_this a_this_low a_this_high a_this_kind a_this_x a_this_y a_this_z v_unknowns v_rules) H → va_D A (ww_X3_refusalOfRule cI cM a_this a_this_low a_this_high a_this_kind a_this_x a_this_y a_this_z v_unknowns v_rules) → va_S A s.heap H locs → lv_has ls 5 [(0, .ref a_this), (1, .int x1), (2, .int x2), (3, .int x3), (4, .int x4)] → W p l e rm_X3_refusalOfRule s m args below meth c H locs 0 0 (MQ below (g_QI D (g_tys cI cM) A (ww_X3_refusalOfRule cI cM a_this a_this_low a_this_high a_this_kind a_this_x a_this_y a_this_z v_unknowns v_rules) r) args s 0 0 A) (F0 m 0 ls []) := by
  obtain ⟨hx, hb, hr, hml, hown, hts, hlocks⟩ := id C0
  intro x1 x2 x3 x4 H locs ls hf hP hD hS hl
  unfold f_X3_refusalOfRule at hf
  refine lv_iload_n hx hb dX3_refusalOfRule_0 rfl (lv_at hl 1 rfl) ?_
  refine lv_if_lt (tgt := 25) hx hb dX3_refusalOfRule_1 (by decide) (fun c1 => ?_) (fun c1 => ?_)
  · replace hf := o_t c1 hf
    refine lv_ldc (v := (-2139095050)) hx hb hown (hts (.constant RX3 49 (-2139095050)) (List.mem_cons_of_mem _ (List.mem_append_left _ (List.mem_of_getElem? (i := 0) rfl)))) dX3_refusalOfRule_25 ?_
    have q0 := Option.some.inj hf
    subst q0
    exact g_iret hx hb hr hlocks hP hD hK hS dX3_refusalOfRule_27
  · replace hf := o_f c1 hf
    refine lv_iload_n hx hb dX3_refusalOfRule_4 rfl (lv_at hl 1 rfl) ?_
    refine lv_iconst (v := 5) hx hb dX3_refusalOfRule_5 (by decide) ?_
    refine lv_icmp_gt (tgt := 25) hx hb dX3_refusalOfRule_6 (by decide) (fun c6 => ?_) (fun c6 => ?_)
    · replace hf := o_t c6 hf
      refine lv_ldc (v := (-2139095050)) hx hb hown (hts (.constant RX3 49 (-2139095050)) (List.mem_cons_of_mem _ (List.mem_append_left _ (List.mem_of_getElem? (i := 0) rfl)))) dX3_refusalOfRule_25 ?_
      have q0 := Option.some.inj hf
      subst q0
      exact g_iret hx hb hr hlocks hP hD hK hS dX3_refusalOfRule_27
    · replace hf := o_f c6 hf
      refine lv_aload_n hx hb dX3_refusalOfRule_9 rfl (lv_at hl 0 rfl) ?_
      refine lv_iload_n hx hb dX3_refusalOfRule_10 rfl (lv_at hl 2 rfl) ?_
      obtain ⟨r11, hg11, hf⟩ := o_b1_go hf
      refine g_callVi (wn := (ww_X3_refusalOfRule cI cM a_this a_this_low a_this_high a_this_kind a_this_x a_this_y a_this_z v_unknowns v_rules)) (rest := []) ⟨hx, hb, hml, hown, hts⟩ (c_X3_hasUnknown l D cI cM a_this a_this_low a_this_high a_this_kind a_this_x a_this_y a_this_z H.size v_unknowns v_rules hg11) (cwV 1 hts gX3_refusalOfRule_X3_hasUnknown rfl rfl rfl (by decide +kernel) ⟨Nat.le_of_ble_eq_true rfl, Nat.le_of_ble_eq_true rfl⟩) hK hP hD hS hA [0] [] [0] rfl rfl rfl rfl rfl rfl (by decide) rfl rfl rfl hl.1 rfl (Nat.le_of_ble_eq_true rfl) dX3_refusalOfRule_11 (fun H locs hP hD hS => ?_)
      refine lv_if_eq (tgt := 25) hx hb dX3_refusalOfRule_14 (by decide) (fun c14 => ?_) (fun c14 => ?_)
      · replace hf := o_t c14 hf
        refine lv_ldc (v := (-2139095050)) hx hb hown (hts (.constant RX3 49 (-2139095050)) (List.mem_cons_of_mem _ (List.mem_append_left _ (List.mem_of_getElem? (i := 0) rfl)))) dX3_refusalOfRule_25 ?_
        have q0 := Option.some.inj hf
        subst q0
        exact g_iret hx hb hr hlocks hP hD hK hS dX3_refusalOfRule_27
      · replace hf := o_f c14 hf
        refine lv_aload_n hx hb dX3_refusalOfRule_17 rfl (lv_at hl 0 rfl) ?_
        refine lv_iload_n hx hb dX3_refusalOfRule_18 rfl (lv_at hl 3 rfl) ?_
        obtain ⟨r19, hg19, hf⟩ := o_b1_go hf
        refine g_callVi (wn := (ww_X3_refusalOfRule cI cM a_this a_this_low a_this_high a_this_kind a_this_x a_this_y a_this_z v_unknowns v_rules)) (rest := []) ⟨hx, hb, hml, hown, hts⟩ (c_X3_hasUnknown l D cI cM a_this a_this_low a_this_high a_this_kind a_this_x a_this_y a_this_z H.size v_unknowns v_rules hg19) (cwV 1 hts gX3_refusalOfRule_X3_hasUnknown rfl rfl rfl (by decide +kernel) ⟨Nat.le_of_ble_eq_true rfl, Nat.le_of_ble_eq_true rfl⟩) hK hP hD hS hA [0] [] [0] rfl rfl rfl rfl rfl rfl (by decide) rfl rfl rfl hl.1 rfl (Nat.le_of_ble_eq_true rfl) dX3_refusalOfRule_19 (fun H locs hP hD hS => ?_)
        refine lv_if_ne (tgt := 28) hx hb dX3_refusalOfRule_22 (by decide) (fun c22 => ?_) (fun c22 => ?_)
        · replace hf := o_f c22 hf
          refine lv_iload_n hx hb dX3_refusalOfRule_28 rfl (lv_at hl 1 rfl) ?_
          refine lv_iconst (v := 3) hx hb dX3_refusalOfRule_29 (by decide) ?_
          refine lv_icmp_ge (tgt := 45) hx hb dX3_refusalOfRule_30 (by decide) (fun c30 => ?_) (fun c30 => ?_)
          · replace hf := o_t c30 hf
            refine lv_iload hx hb dX3_refusalOfRule_45 (lv_at hl 4 rfl) ?_
            refine lv_if_eq (tgt := 53) hx hb dX3_refusalOfRule_47 (by decide) (fun c47 => ?_) (fun c47 => ?_)
            · replace hf := o_t c47 hf
              exact w_X3_refusalOfRule_B53 C0 hA hK H locs ls hf hP hD hS (lv_sub hl [0] rfl)
            · replace hf := o_f c47 hf
              refine lv_ldc (v := (-2139095050)) hx hb hown (hts (.constant RX3 49 (-2139095050)) (List.mem_cons_of_mem _ (List.mem_append_left _ (List.mem_of_getElem? (i := 0) rfl)))) dX3_refusalOfRule_50 ?_
              have q0 := Option.some.inj hf
              subst q0
              exact g_iret hx hb hr hlocks hP hD hK hS dX3_refusalOfRule_52
          · replace hf := o_f c30 hf
            refine lv_aload_n hx hb dX3_refusalOfRule_33 rfl (lv_at hl 0 rfl) ?_
            refine lv_iload hx hb dX3_refusalOfRule_34 (lv_at hl 4 rfl) ?_
            obtain ⟨r36, hg36, hf⟩ := o_b1_go hf
            refine g_callVi (wn := (ww_X3_refusalOfRule cI cM a_this a_this_low a_this_high a_this_kind a_this_x a_this_y a_this_z v_unknowns v_rules)) (rest := []) ⟨hx, hb, hml, hown, hts⟩ (c_X3_hasUnknown l D cI cM a_this a_this_low a_this_high a_this_kind a_this_x a_this_y a_this_z H.size v_unknowns v_rules hg36) (cwV 1 hts gX3_refusalOfRule_X3_hasUnknown rfl rfl rfl (by decide +kernel) ⟨Nat.le_of_ble_eq_true rfl, Nat.le_of_ble_eq_true rfl⟩) hK hP hD hS hA [0] [] [0] rfl rfl rfl rfl rfl rfl (by decide) rfl rfl rfl hl.1 rfl (Nat.le_of_ble_eq_true rfl) dX3_refusalOfRule_36 (fun H locs hP hD hS => ?_)
            refine lv_if_ne (tgt := 53) hx hb dX3_refusalOfRule_39 (by decide) (fun c39 => ?_) (fun c39 => ?_)
            · replace hf := o_f c39 hf
              exact w_X3_refusalOfRule_B53 C0 hA hK H locs ls hf hP hD hS (lv_sub hl [0] rfl)
            · replace hf := o_t c39 hf
              refine lv_goto (tgt := 50) hx hb dX3_refusalOfRule_42 (by decide) ?_
              refine lv_ldc (v := (-2139095050)) hx hb hown (hts (.constant RX3 49 (-2139095050)) (List.mem_cons_of_mem _ (List.mem_append_left _ (List.mem_of_getElem? (i := 0) rfl)))) dX3_refusalOfRule_50 ?_
              have q0 := Option.some.inj hf
              subst q0
              exact g_iret hx hb hr hlocks hP hD hK hS dX3_refusalOfRule_52
        · replace hf := o_t c22 hf
          refine lv_ldc (v := (-2139095050)) hx hb hown (hts (.constant RX3 49 (-2139095050)) (List.mem_cons_of_mem _ (List.mem_append_left _ (List.mem_of_getElem? (i := 0) rfl)))) dX3_refusalOfRule_25 ?_
          have q0 := Option.some.inj hf
          subst q0
          exact g_iret hx hb hr hlocks hP hD hK hS dX3_refusalOfRule_27
set_option maxHeartbeats 4000000 in
set_option maxRecDepth 100000 in
theorem c_X3_refusalOfRule (l : Launch) (D : va_G) (cI cM : ClassId) (a_this a_this_low a_this_high a_this_kind a_this_x a_this_y a_this_z : Nat) (sz : Nat) (v_unknowns : Int32) (v_rules : Int32) {x1 : Int32} {x2 : Int32} {x3 : Int32} {x4 : Int32} {r : Int32} (hf : f_X3_refusalOfRule v_unknowns v_rules x1 x2 x3 x4 = some r) : Met l yX3_refusalOfRule wsX3_refusalOfRule rm_X3_refusalOfRule (g_Pc D (g_tys cI cM) (ww_X3_refusalOfRule cI cM a_this a_this_low a_this_high a_this_kind a_this_x a_this_y a_this_z v_unknowns v_rules) sz [.ref a_this, .int x1, .int x2, .int x3, .int x4]) (g_QI D (g_tys cI cM) (va_A (ww_X3_refusalOfRule cI cM a_this a_this_low a_this_high a_this_kind a_this_x a_this_y a_this_z v_unknowns v_rules) sz) (ww_X3_refusalOfRule cI cM a_this a_this_low a_this_high a_this_kind a_this_x a_this_y a_this_z v_unknowns v_rules) r) 0 0 (va_A (ww_X3_refusalOfRule cI cM a_this a_this_low a_this_high a_this_kind a_this_x a_this_y a_this_z v_unknowns v_rules) sz) := by
  refine g_met (cc := cX3_refusalOfRule) (maxL := 5) (ret := (some .int)) (Qc := fun D A => g_QI D (g_tys cI cM) A (ww_X3_refusalOfRule cI cM a_this a_this_low a_this_high a_this_kind a_this_x a_this_y a_this_z v_unknowns v_rules) r) (by decide) rfl ?_
  intro p e s m below meth c A C0 hA hK hP hD
  have hl := lv_entry ([.ref a_this, .int x1, .int x2, .int x3, .int x4]) (n := 5) (Nat.le_of_ble_eq_true rfl)
  rw [lg_entry_eq]
  generalize (lg_sl ([.ref a_this, .int x1, .int x2, .int x3, .int x4]) ++ List.replicate (5 - (lg_sl ([.ref a_this, .int x1, .int x2, .int x3, .int x4])).length) Slot.unset).toArray = ls at hl ⊢
  have hl : lv_has ls 5 [(0, .ref a_this), (1, .int x1), (2, .int x2), (3, .int x3), (4, .int x4)] := hl
  exact w_X3_refusalOfRule_B0 C0 hA hK x1 x2 x3 x4 s.heap [] ls hf hP hD va_S.rf (lv_sub hl [0, 1, 2, 3, 4] rfl)
/-! FloatBoxes$Model.addRule(IIII)I -/
abbrev rm_X3_addRule : Room := { frames := 0, cells := 0, slots := 0, locals := 0 }
abbrev ww_X3_addRule (cI cM : ClassId) (a_this a_this_low a_this_high a_this_kind a_this_x a_this_y a_this_z : Nat) (v_unknowns : Int32) (v_rules : Int32) (v_kind : Nat → Int32) (v_x : Nat → Int32) (v_y : Nat → Int32) (v_z : Nat → Int32) : va_W := [(a_this, .inr (2, [.int v_unknowns, .int v_rules, .ref a_this_low, .ref a_this_high, .ref a_this_kind, .ref a_this_x, .ref a_this_y, .ref a_this_z])), (a_this_kind, .inl (cI, 6, .inl v_kind)), (a_this_x, .inl (cI, 6, .inl v_x)), (a_this_y, .inl (cI, 6, .inl v_y)), (a_this_z, .inl (cI, 6, .inl v_z))]
def f_X3_addRule  (v_rules : Int32) (v_kind : Nat → Int32) (v_x : Nat → Int32) (v_y : Nat → Int32) (v_z : Nat → Int32) (x1 : Int32) (x2 : Int32) (x3 : Int32) (x4 : Int32) : Option (Int32 × Int32 × (Nat → Int32) × (Nat → Int32) × (Nat → Int32) × (Nat → Int32)) :=
  o_in v_rules 6 (
  o_in v_rules 6 (
  o_in v_rules 6 (
  o_in v_rules 6 (
  some ((v_rules + 1) - 1, v_rules + 1, upd v_kind v_rules.toNatClampNeg x1, upd v_x v_rules.toNatClampNeg x2, upd v_y v_rules.toNatClampNeg x3, upd v_z v_rules.toNatClampNeg x4)))))
set_option maxHeartbeats 4000000 in
set_option maxRecDepth 100000 in
theorem w_X3_addRule_B0 {p : Program} {l : Launch} {e : Env} {s : State} {m : MethodId} {args : Array Value} {below : List Frame} {meth : Method} {c : Code} {D : va_G} {cI cM : ClassId} {A : Nat → Prop} {a_this a_this_low a_this_high a_this_kind a_this_x a_this_y a_this_z : Nat} {v_unknowns : Int32} {r : Int32} {o_rules : Int32} {o_kind : Nat → Int32} {o_x : Nat → Int32} {o_y : Nat → Int32} {o_z : Nat → Int32} (C0 : g_cx cX3_addRule (some .int) 5 RX3 wsX3_addRule p s m args meth c) (hA : ∀ q, s.heap.size ≤ q → A q) (hK : va_K D vwCl (g_tys cI cM) s) : ∀ (v_rules : Int32) (v_kind : Nat → Int32) (v_x : Nat → Int32) (v_y : Nat → Int32) (v_z : Nat → Int32) (x1 : Int32) (x2 : Int32) (x3 : Int32) (x4 : Int32) (H : Heap) (locs : List Loc) (ls : Array Slot), f_X3_addRule v_rules v_kind v_x v_y v_z x1 x2 x3 x4 = some (r, o_rules, o_kind, o_x, o_y, o_z) → va_P D vwCl (ww_X3_addRule cI cM a_this a_this_low a_this_high a_this_kind a_this_x a_this_y a_this_z v_unknowns v_rules v_kind v_x v_y v_z) H → va_D A (ww_X3_addRule cI cM a_this a_this_low a_this_high a_this_kind a_this_x a_this_y a_this_z v_unknowns v_rules v_kind v_x v_y v_z) → va_S A s.heap H locs → lv_has ls 5 [(0, .ref a_this), (1, .int x1), (2, .int x2), (3, .int x3), (4, .int x4)] → W p l e rm_X3_addRule s m args below meth c H locs 0 0 (MQ below (g_QI D (g_tys cI cM) A (ww_X3_addRule cI cM a_this a_this_low a_this_high a_this_kind a_this_x a_this_y a_this_z v_unknowns o_rules o_kind o_x o_y o_z) r) args s 0 0 A) (F0 m 0 ls []) := by
  obtain ⟨hx, hb, hr, hml, hown, hts, hlocks⟩ := id C0
  intro v_rules v_kind v_x v_y v_z x1 x2 x3 x4 H locs ls hf hP hD hS hl
  unfold f_X3_addRule at hf
  refine lv_aload_n hx hb dX3_addRule_0 rfl (lv_at hl 0 rfl) ?_
  refine va_get (D := D) (ci := 2) (v := .ref a_this_kind) (C := RX3) (T := TX3) (N := 8) hx hb hts (fun _ h => (List.mem_cons_of_mem _ (List.mem_append_right _ h))) hown hK hP 0 rfl rfl 4 (by decide) (hts (.fieldLink RX3 18 "FloatBoxes$Model" "kind" "[I") (List.mem_cons_of_mem _ (List.mem_append_left _ (List.mem_of_getElem? (i := 0) rfl)))) (fun _ h9 => h9) rfl dX3_addRule_1 ?_
  refine lv_aload_n hx hb dX3_addRule_4 rfl (lv_at hl 0 rfl) ?_
  refine va_get (D := D) (ci := 2) (v := .int v_rules) (C := RX3) (T := TX3) (N := 8) hx hb hts (fun _ h => (List.mem_cons_of_mem _ (List.mem_append_right _ h))) hown hK hP 0 rfl rfl 1 (by decide) (hts (.fieldLink RX3 34 "FloatBoxes$Model" "rules" "I") (List.mem_cons_of_mem _ (List.mem_append_left _ (List.mem_of_getElem? (i := 1) rfl)))) (fun _ h9 => h9) rfl dX3_addRule_5 ?_
  refine lv_iload_n hx hb dX3_addRule_8 rfl (lv_at hl 1 rfl) ?_
  obtain ⟨h9, hf⟩ := o_in_go hf
  refine va_iast hx hb hK hP hD hS 1 0 rfl rfl h9 dX3_addRule_9 (fun H locs hP hD hS => ?_)
  replace hP : va_P D vwCl (ww_X3_addRule cI cM a_this a_this_low a_this_high a_this_kind a_this_x a_this_y a_this_z v_unknowns v_rules (upd v_kind v_rules.toNatClampNeg x1) v_x v_y v_z) H := hP
  replace hD : va_D A (ww_X3_addRule cI cM a_this a_this_low a_this_high a_this_kind a_this_x a_this_y a_this_z v_unknowns v_rules (upd v_kind v_rules.toNatClampNeg x1) v_x v_y v_z) := hD
  refine lv_aload_n hx hb dX3_addRule_10 rfl (lv_at hl 0 rfl) ?_
  refine va_get (D := D) (ci := 2) (v := .ref a_this_x) (C := RX3) (T := TX3) (N := 8) hx hb hts (fun _ h => (List.mem_cons_of_mem _ (List.mem_append_right _ h))) hown hK hP 0 rfl rfl 5 (by decide) (hts (.fieldLink RX3 21 "FloatBoxes$Model" "x" "[I") (List.mem_cons_of_mem _ (List.mem_append_left _ (List.mem_of_getElem? (i := 2) rfl)))) (fun _ h9 => h9) rfl dX3_addRule_11 ?_
  refine lv_aload_n hx hb dX3_addRule_14 rfl (lv_at hl 0 rfl) ?_
  refine va_get (D := D) (ci := 2) (v := .int v_rules) (C := RX3) (T := TX3) (N := 8) hx hb hts (fun _ h => (List.mem_cons_of_mem _ (List.mem_append_right _ h))) hown hK hP 0 rfl rfl 1 (by decide) (hts (.fieldLink RX3 34 "FloatBoxes$Model" "rules" "I") (List.mem_cons_of_mem _ (List.mem_append_left _ (List.mem_of_getElem? (i := 1) rfl)))) (fun _ h9 => h9) rfl dX3_addRule_15 ?_
  refine lv_iload_n hx hb dX3_addRule_18 rfl (lv_at hl 2 rfl) ?_
  obtain ⟨h19, hf⟩ := o_in_go hf
  refine va_iast hx hb hK hP hD hS 2 0 rfl rfl h19 dX3_addRule_19 (fun H locs hP hD hS => ?_)
  replace hP : va_P D vwCl (ww_X3_addRule cI cM a_this a_this_low a_this_high a_this_kind a_this_x a_this_y a_this_z v_unknowns v_rules (upd v_kind v_rules.toNatClampNeg x1) (upd v_x v_rules.toNatClampNeg x2) v_y v_z) H := hP
  replace hD : va_D A (ww_X3_addRule cI cM a_this a_this_low a_this_high a_this_kind a_this_x a_this_y a_this_z v_unknowns v_rules (upd v_kind v_rules.toNatClampNeg x1) (upd v_x v_rules.toNatClampNeg x2) v_y v_z) := hD
  refine lv_aload_n hx hb dX3_addRule_20 rfl (lv_at hl 0 rfl) ?_
  refine va_get (D := D) (ci := 2) (v := .ref a_this_y) (C := RX3) (T := TX3) (N := 8) hx hb hts (fun _ h => (List.mem_cons_of_mem _ (List.mem_append_right _ h))) hown hK hP 0 rfl rfl 6 (by decide) (hts (.fieldLink RX3 24 "FloatBoxes$Model" "y" "[I") (List.mem_cons_of_mem _ (List.mem_append_left _ (List.mem_of_getElem? (i := 3) rfl)))) (fun _ h9 => h9) rfl dX3_addRule_21 ?_
  refine lv_aload_n hx hb dX3_addRule_24 rfl (lv_at hl 0 rfl) ?_
  refine va_get (D := D) (ci := 2) (v := .int v_rules) (C := RX3) (T := TX3) (N := 8) hx hb hts (fun _ h => (List.mem_cons_of_mem _ (List.mem_append_right _ h))) hown hK hP 0 rfl rfl 1 (by decide) (hts (.fieldLink RX3 34 "FloatBoxes$Model" "rules" "I") (List.mem_cons_of_mem _ (List.mem_append_left _ (List.mem_of_getElem? (i := 1) rfl)))) (fun _ h9 => h9) rfl dX3_addRule_25 ?_
  refine lv_iload_n hx hb dX3_addRule_28 rfl (lv_at hl 3 rfl) ?_
  obtain ⟨h29, hf⟩ := o_in_go hf
  refine va_iast hx hb hK hP hD hS 3 0 rfl rfl h29 dX3_addRule_29 (fun H locs hP hD hS => ?_)
  replace hP : va_P D vwCl (ww_X3_addRule cI cM a_this a_this_low a_this_high a_this_kind a_this_x a_this_y a_this_z v_unknowns v_rules (upd v_kind v_rules.toNatClampNeg x1) (upd v_x v_rules.toNatClampNeg x2) (upd v_y v_rules.toNatClampNeg x3) v_z) H := hP
  replace hD : va_D A (ww_X3_addRule cI cM a_this a_this_low a_this_high a_this_kind a_this_x a_this_y a_this_z v_unknowns v_rules (upd v_kind v_rules.toNatClampNeg x1) (upd v_x v_rules.toNatClampNeg x2) (upd v_y v_rules.toNatClampNeg x3) v_z) := hD
  refine lv_aload_n hx hb dX3_addRule_30 rfl (lv_at hl 0 rfl) ?_
  refine va_get (D := D) (ci := 2) (v := .ref a_this_z) (C := RX3) (T := TX3) (N := 8) hx hb hts (fun _ h => (List.mem_cons_of_mem _ (List.mem_append_right _ h))) hown hK hP 0 rfl rfl 7 (by decide) (hts (.fieldLink RX3 27 "FloatBoxes$Model" "z" "[I") (List.mem_cons_of_mem _ (List.mem_append_left _ (List.mem_of_getElem? (i := 4) rfl)))) (fun _ h9 => h9) rfl dX3_addRule_31 ?_
  refine lv_aload_n hx hb dX3_addRule_34 rfl (lv_at hl 0 rfl) ?_
  refine va_get (D := D) (ci := 2) (v := .int v_rules) (C := RX3) (T := TX3) (N := 8) hx hb hts (fun _ h => (List.mem_cons_of_mem _ (List.mem_append_right _ h))) hown hK hP 0 rfl rfl 1 (by decide) (hts (.fieldLink RX3 34 "FloatBoxes$Model" "rules" "I") (List.mem_cons_of_mem _ (List.mem_append_left _ (List.mem_of_getElem? (i := 1) rfl)))) (fun _ h9 => h9) rfl dX3_addRule_35 ?_
  refine lv_iload hx hb dX3_addRule_38 (lv_at hl 4 rfl) ?_
  obtain ⟨h40, hf⟩ := o_in_go hf
  refine va_iast hx hb hK hP hD hS 4 0 rfl rfl h40 dX3_addRule_40 (fun H locs hP hD hS => ?_)
  replace hP : va_P D vwCl (ww_X3_addRule cI cM a_this a_this_low a_this_high a_this_kind a_this_x a_this_y a_this_z v_unknowns v_rules (upd v_kind v_rules.toNatClampNeg x1) (upd v_x v_rules.toNatClampNeg x2) (upd v_y v_rules.toNatClampNeg x3) (upd v_z v_rules.toNatClampNeg x4)) H := hP
  replace hD : va_D A (ww_X3_addRule cI cM a_this a_this_low a_this_high a_this_kind a_this_x a_this_y a_this_z v_unknowns v_rules (upd v_kind v_rules.toNatClampNeg x1) (upd v_x v_rules.toNatClampNeg x2) (upd v_y v_rules.toNatClampNeg x3) (upd v_z v_rules.toNatClampNeg x4)) := hD
  refine lv_aload_n hx hb dX3_addRule_41 rfl (lv_at hl 0 rfl) ?_
  refine lv_dup hx hb dX3_addRule_42 rfl ?_
  refine va_get (D := D) (ci := 2) (v := .int v_rules) (C := RX3) (T := TX3) (N := 8) hx hb hts (fun _ h => (List.mem_cons_of_mem _ (List.mem_append_right _ h))) hown hK hP 0 rfl rfl 1 (by decide) (hts (.fieldLink RX3 34 "FloatBoxes$Model" "rules" "I") (List.mem_cons_of_mem _ (List.mem_append_left _ (List.mem_of_getElem? (i := 1) rfl)))) (fun _ h9 => h9) rfl dX3_addRule_43 ?_
  refine lv_iconst (v := 1) hx hb dX3_addRule_46 (by decide) ?_
  refine lv_iadd hx hb dX3_addRule_47 ?_
  refine va_put (D := D) (ci := 2) (v := .int (v_rules + 1)) (ty := .int) (C := RX3) (T := TX3) (N := 8) hx hb hts (fun _ h => (List.mem_cons_of_mem _ (List.mem_append_right _ h))) tyX3 tyX3_ok nmX3 hown hK hP hD hS 0 rfl rfl 1 (by decide) (hts (.fieldLink RX3 34 "FloatBoxes$Model" "rules" "I") (List.mem_cons_of_mem _ (List.mem_append_left _ (List.mem_of_getElem? (i := 1) rfl)))) (fun _ h9 => h9) rfl (by decide +kernel) rfl rfl (Nat.le_of_ble_eq_true rfl) dX3_addRule_48 (fun H locs hP hD hS => ?_)
  replace hP : va_P D vwCl (ww_X3_addRule cI cM a_this a_this_low a_this_high a_this_kind a_this_x a_this_y a_this_z v_unknowns (v_rules + 1) (upd v_kind v_rules.toNatClampNeg x1) (upd v_x v_rules.toNatClampNeg x2) (upd v_y v_rules.toNatClampNeg x3) (upd v_z v_rules.toNatClampNeg x4)) H := hP
  replace hD : va_D A (ww_X3_addRule cI cM a_this a_this_low a_this_high a_this_kind a_this_x a_this_y a_this_z v_unknowns (v_rules + 1) (upd v_kind v_rules.toNatClampNeg x1) (upd v_x v_rules.toNatClampNeg x2) (upd v_y v_rules.toNatClampNeg x3) (upd v_z v_rules.toNatClampNeg x4)) := hD
  refine lv_aload_n hx hb dX3_addRule_51 rfl (lv_at hl 0 rfl) ?_
  refine va_get (D := D) (ci := 2) (v := .int (v_rules + 1)) (C := RX3) (T := TX3) (N := 8) hx hb hts (fun _ h => (List.mem_cons_of_mem _ (List.mem_append_right _ h))) hown hK hP 0 rfl rfl 1 (by decide) (hts (.fieldLink RX3 34 "FloatBoxes$Model" "rules" "I") (List.mem_cons_of_mem _ (List.mem_append_left _ (List.mem_of_getElem? (i := 1) rfl)))) (fun _ h9 => h9) rfl dX3_addRule_52 ?_
  refine lv_iconst (v := 1) hx hb dX3_addRule_55 (by decide) ?_
  refine lv_isub hx hb dX3_addRule_56 ?_
  obtain ⟨q0, y0⟩ := o_rp hf
  obtain ⟨q1, y1⟩ := o_rp y0
  obtain ⟨q2, y2⟩ := o_rp y1
  obtain ⟨q3, y3⟩ := o_rp y2
  obtain ⟨q4, y4⟩ := o_rp y3
  have q5 := Option.some.inj y4
  subst q0 q1 q2 q3 q4 q5
  exact g_iret hx hb hr hlocks hP hD hK hS dX3_addRule_57
set_option maxHeartbeats 4000000 in
set_option maxRecDepth 100000 in
theorem c_X3_addRule (l : Launch) (D : va_G) (cI cM : ClassId) (a_this a_this_low a_this_high a_this_kind a_this_x a_this_y a_this_z : Nat) (sz : Nat) (v_unknowns : Int32) (v_rules : Int32) (v_kind : Nat → Int32) (v_x : Nat → Int32) (v_y : Nat → Int32) (v_z : Nat → Int32) {x1 : Int32} {x2 : Int32} {x3 : Int32} {x4 : Int32} {r : Int32} {o_rules : Int32} {o_kind : Nat → Int32} {o_x : Nat → Int32} {o_y : Nat → Int32} {o_z : Nat → Int32} (hf : f_X3_addRule v_rules v_kind v_x v_y v_z x1 x2 x3 x4 = some (r, o_rules, o_kind, o_x, o_y, o_z)) : Met l yX3_addRule wsX3_addRule rm_X3_addRule (g_Pc D (g_tys cI cM) (ww_X3_addRule cI cM a_this a_this_low a_this_high a_this_kind a_this_x a_this_y a_this_z v_unknowns v_rules v_kind v_x v_y v_z) sz [.ref a_this, .int x1, .int x2, .int x3, .int x4]) (g_QI D (g_tys cI cM) (va_A (ww_X3_addRule cI cM a_this a_this_low a_this_high a_this_kind a_this_x a_this_y a_this_z v_unknowns v_rules v_kind v_x v_y v_z) sz) (ww_X3_addRule cI cM a_this a_this_low a_this_high a_this_kind a_this_x a_this_y a_this_z v_unknowns o_rules o_kind o_x o_y o_z) r) 0 0 (va_A (ww_X3_addRule cI cM a_this a_this_low a_this_high a_this_kind a_this_x a_this_y a_this_z v_unknowns v_rules v_kind v_x v_y v_z) sz) := by
  refine g_met (cc := cX3_addRule) (maxL := 5) (ret := (some .int)) (Qc := fun D A => g_QI D (g_tys cI cM) A (ww_X3_addRule cI cM a_this a_this_low a_this_high a_this_kind a_this_x a_this_y a_this_z v_unknowns o_rules o_kind o_x o_y o_z) r) (by decide) rfl ?_
  intro p e s m below meth c A C0 hA hK hP hD
  have hl := lv_entry ([.ref a_this, .int x1, .int x2, .int x3, .int x4]) (n := 5) (Nat.le_of_ble_eq_true rfl)
  rw [lg_entry_eq]
  generalize (lg_sl ([.ref a_this, .int x1, .int x2, .int x3, .int x4]) ++ List.replicate (5 - (lg_sl ([.ref a_this, .int x1, .int x2, .int x3, .int x4])).length) Slot.unset).toArray = ls at hl ⊢
  have hl : lv_has ls 5 [(0, .ref a_this), (1, .int x1), (2, .int x2), (3, .int x3), (4, .int x4)] := hl
  exact w_X3_addRule_B0 C0 hA hK v_rules v_kind v_x v_y v_z x1 x2 x3 x4 s.heap [] ls hf hP hD va_S.rf (lv_sub hl [0, 1, 2, 3, 4] rfl)
/-! FloatBoxes$Model.dropRule(I)I -/
abbrev rm_X3_dropRule : Room := { frames := 0, cells := 0, slots := 0, locals := 0 }
abbrev ww_X3_dropRule (cI cM : ClassId) (a_this a_this_low a_this_high a_this_kind a_this_x a_this_y a_this_z : Nat) (v_unknowns : Int32) (v_rules : Int32) (v_kind : Nat → Int32) (v_x : Nat → Int32) (v_y : Nat → Int32) (v_z : Nat → Int32) : va_W := [(a_this, .inr (2, [.int v_unknowns, .int v_rules, .ref a_this_low, .ref a_this_high, .ref a_this_kind, .ref a_this_x, .ref a_this_y, .ref a_this_z])), (a_this_kind, .inl (cI, 6, .inl v_kind)), (a_this_x, .inl (cI, 6, .inl v_x)), (a_this_y, .inl (cI, 6, .inl v_y)), (a_this_z, .inl (cI, 6, .inl v_z))]
def f_X3_dropRule_C12 (N : Nat) (k12 : Int32 → (Nat → Int32) → (Nat → Int32) → (Nat → Int32) → (Nat → Int32) → Int32 → Option (Int32 × Int32 × (Nat → Int32) × (Nat → Int32) × (Nat → Int32) × (Nat → Int32))) (v_rules : Int32) (v_kind : Nat → Int32) (v_x : Nat → Int32) (v_y : Nat → Int32) (v_z : Nat → Int32) (x2 : Int32) : Option (Int32 × Int32 × (Nat → Int32) × (Nat → Int32) × (Nat → Int32) × (Nat → Int32)) :=
  if v_rules ≤ x2 then
    some (v_rules, v_rules, v_kind, v_x, v_y, v_z)
  else
    o_in (x2 + 1) 6 (
    o_in x2 6 (
    o_in (x2 + 1) 6 (
    o_in x2 6 (
    o_in (x2 + 1) 6 (
    o_in x2 6 (
    o_in (x2 + 1) 6 (
    o_in x2 6 (
    k12 v_rules (upd v_kind x2.toNatClampNeg (v_kind (x2 + 1).toNatClampNeg)) (upd v_x x2.toNatClampNeg (v_x (x2 + 1).toNatClampNeg)) (upd v_y x2.toNatClampNeg (v_y (x2 + 1).toNatClampNeg)) (upd v_z x2.toNatClampNeg (v_z (x2 + 1).toNatClampNeg)) (x2 + 1)))))))))
def f_X3_dropRule_L12 (N : Nat) : Nat → Int32 → (Nat → Int32) → (Nat → Int32) → (Nat → Int32) → (Nat → Int32) → Int32 → Option (Int32 × Int32 × (Nat → Int32) × (Nat → Int32) × (Nat → Int32) × (Nat → Int32))
  | 0 => fun _ _ _ _ _ _ => none
  | n + 1 => f_X3_dropRule_C12 N (f_X3_dropRule_L12 N n)
set_option maxHeartbeats 4000000 in
set_option maxRecDepth 100000 in
theorem w_X3_dropRule_C12 {p : Program} {l : Launch} {e : Env} {s : State} {m : MethodId} {args : Array Value} {below : List Frame} {meth : Method} {c : Code} {D : va_G} {cI cM : ClassId} {A : Nat → Prop} {a_this a_this_low a_this_high a_this_kind a_this_x a_this_y a_this_z : Nat} {v_unknowns : Int32} {N : Nat} {r : Int32} {o_rules : Int32} {o_kind : Nat → Int32} {o_x : Nat → Int32} {o_y : Nat → Int32} {o_z : Nat → Int32} (C0 : g_cx cX3_dropRule (some .int) 3 RX3 wsX3_dropRule p s m args meth c) (hA : ∀ q, s.heap.size ≤ q → A q) (hK : va_K D vwCl (g_tys cI cM) s) (k12 : Int32 → (Nat → Int32) → (Nat → Int32) → (Nat → Int32) → (Nat → Int32) → Int32 → Option (Int32 × Int32 × (Nat → Int32) × (Nat → Int32) × (Nat → Int32) × (Nat → Int32))) (hk12 : ∀ (v_rules : Int32) (v_kind : Nat → Int32) (v_x : Nat → Int32) (v_y : Nat → Int32) (v_z : Nat → Int32) (x2 : Int32) (H : Heap) (locs : List Loc) (ls : Array Slot), k12 v_rules v_kind v_x v_y v_z x2 = some (r, o_rules, o_kind, o_x, o_y, o_z) → va_P D vwCl (ww_X3_dropRule cI cM a_this a_this_low a_this_high a_this_kind a_this_x a_this_y a_this_z v_unknowns v_rules v_kind v_x v_y v_z) H → va_D A (ww_X3_dropRule cI cM a_this a_this_low a_this_high a_this_kind a_this_x a_this_y a_this_z v_unknowns v_rules v_kind v_x v_y v_z) → va_S A s.heap H locs → lv_has ls 3 [(0, .ref a_this), (2, .int x2)] → W p l e rm_X3_dropRule s m args below meth c H locs 0 0 (MQ below (g_QI D (g_tys cI cM) A (ww_X3_dropRule cI cM a_this a_this_low a_this_high a_this_kind a_this_x a_this_y a_this_z v_unknowns o_rules o_kind o_x o_y o_z) r) args s 0 0 A) (F0 m 12 ls [])) : ∀ (v_rules : Int32) (v_kind : Nat → Int32) (v_x : Nat → Int32) (v_y : Nat → Int32) (v_z : Nat → Int32) (x2 : Int32) (H : Heap) (locs : List Loc) (ls : Array Slot), f_X3_dropRule_C12 N k12 v_rules v_kind v_x v_y v_z x2 = some (r, o_rules, o_kind, o_x, o_y, o_z) → va_P D vwCl (ww_X3_dropRule cI cM a_this a_this_low a_this_high a_this_kind a_this_x a_this_y a_this_z v_unknowns v_rules v_kind v_x v_y v_z) H → va_D A (ww_X3_dropRule cI cM a_this a_this_low a_this_high a_this_kind a_this_x a_this_y a_this_z v_unknowns v_rules v_kind v_x v_y v_z) → va_S A s.heap H locs → lv_has ls 3 [(0, .ref a_this), (2, .int x2)] → W p l e rm_X3_dropRule s m args below meth c H locs 0 0 (MQ below (g_QI D (g_tys cI cM) A (ww_X3_dropRule cI cM a_this a_this_low a_this_high a_this_kind a_this_x a_this_y a_this_z v_unknowns o_rules o_kind o_x o_y o_z) r) args s 0 0 A) (F0 m 12 ls []) := by
  obtain ⟨hx, hb, hr, hml, hown, hts, hlocks⟩ := id C0
  intro v_rules v_kind v_x v_y v_z x2 H locs ls hf hP hD hS hl
  unfold f_X3_dropRule_C12 at hf
  refine lv_iload_n hx hb dX3_dropRule_12 rfl (lv_at hl 1 rfl) ?_
  refine lv_aload_n hx hb dX3_dropRule_13 rfl (lv_at hl 0 rfl) ?_
  refine va_get (D := D) (ci := 2) (v := .int v_rules) (C := RX3) (T := TX3) (N := 8) hx hb hts (fun _ h => (List.mem_cons_of_mem _ (List.mem_append_right _ h))) hown hK hP 0 rfl rfl 1 (by decide) (hts (.fieldLink RX3 34 "FloatBoxes$Model" "rules" "I") (List.mem_cons_of_mem _ (List.mem_append_left _ (List.mem_of_getElem? (i := 0) rfl)))) (fun _ h9 => h9) rfl dX3_dropRule_14 ?_
  refine lv_icmp_ge (tgt := 82) hx hb dX3_dropRule_17 (by decide) (fun c17 => ?_) (fun c17 => ?_)
  · replace hf := o_t c17 hf
    refine lv_aload_n hx hb dX3_dropRule_82 rfl (lv_at hl 0 rfl) ?_
    refine va_get (D := D) (ci := 2) (v := .int v_rules) (C := RX3) (T := TX3) (N := 8) hx hb hts (fun _ h => (List.mem_cons_of_mem _ (List.mem_append_right _ h))) hown hK hP 0 rfl rfl 1 (by decide) (hts (.fieldLink RX3 34 "FloatBoxes$Model" "rules" "I") (List.mem_cons_of_mem _ (List.mem_append_left _ (List.mem_of_getElem? (i := 0) rfl)))) (fun _ h9 => h9) rfl dX3_dropRule_83 ?_
    obtain ⟨q0, y0⟩ := o_rp hf
    obtain ⟨q1, y1⟩ := o_rp y0
    obtain ⟨q2, y2⟩ := o_rp y1
    obtain ⟨q3, y3⟩ := o_rp y2
    obtain ⟨q4, y4⟩ := o_rp y3
    have q5 := Option.some.inj y4
    subst q0 q1 q2 q3 q4 q5
    exact g_iret hx hb hr hlocks hP hD hK hS dX3_dropRule_86
  · replace hf := o_f c17 hf
    refine lv_aload_n hx hb dX3_dropRule_20 rfl (lv_at hl 0 rfl) ?_
    refine va_get (D := D) (ci := 2) (v := .ref a_this_kind) (C := RX3) (T := TX3) (N := 8) hx hb hts (fun _ h => (List.mem_cons_of_mem _ (List.mem_append_right _ h))) hown hK hP 0 rfl rfl 4 (by decide) (hts (.fieldLink RX3 18 "FloatBoxes$Model" "kind" "[I") (List.mem_cons_of_mem _ (List.mem_append_left _ (List.mem_of_getElem? (i := 1) rfl)))) (fun _ h9 => h9) rfl dX3_dropRule_21 ?_
    refine lv_iload_n hx hb dX3_dropRule_24 rfl (lv_at hl 1 rfl) ?_
    refine lv_aload_n hx hb dX3_dropRule_25 rfl (lv_at hl 0 rfl) ?_
    refine va_get (D := D) (ci := 2) (v := .ref a_this_kind) (C := RX3) (T := TX3) (N := 8) hx hb hts (fun _ h => (List.mem_cons_of_mem _ (List.mem_append_right _ h))) hown hK hP 0 rfl rfl 4 (by decide) (hts (.fieldLink RX3 18 "FloatBoxes$Model" "kind" "[I") (List.mem_cons_of_mem _ (List.mem_append_left _ (List.mem_of_getElem? (i := 1) rfl)))) (fun _ h9 => h9) rfl dX3_dropRule_26 ?_
    refine lv_iload_n hx hb dX3_dropRule_29 rfl (lv_at hl 1 rfl) ?_
    refine lv_iconst (v := 1) hx hb dX3_dropRule_30 (by decide) ?_
    refine lv_iadd hx hb dX3_dropRule_31 ?_
    obtain ⟨h32, hf⟩ := o_in_go hf
    refine va_iald hx hb hK hP 1 0 rfl rfl h32 dX3_dropRule_32 ?_
    obtain ⟨h33, hf⟩ := o_in_go hf
    refine va_iast hx hb hK hP hD hS 1 0 rfl rfl h33 dX3_dropRule_33 (fun H locs hP hD hS => ?_)
    replace hP : va_P D vwCl (ww_X3_dropRule cI cM a_this a_this_low a_this_high a_this_kind a_this_x a_this_y a_this_z v_unknowns v_rules (upd v_kind x2.toNatClampNeg (v_kind (x2 + 1).toNatClampNeg)) v_x v_y v_z) H := hP
    replace hD : va_D A (ww_X3_dropRule cI cM a_this a_this_low a_this_high a_this_kind a_this_x a_this_y a_this_z v_unknowns v_rules (upd v_kind x2.toNatClampNeg (v_kind (x2 + 1).toNatClampNeg)) v_x v_y v_z) := hD
    refine lv_aload_n hx hb dX3_dropRule_34 rfl (lv_at hl 0 rfl) ?_
    refine va_get (D := D) (ci := 2) (v := .ref a_this_x) (C := RX3) (T := TX3) (N := 8) hx hb hts (fun _ h => (List.mem_cons_of_mem _ (List.mem_append_right _ h))) hown hK hP 0 rfl rfl 5 (by decide) (hts (.fieldLink RX3 21 "FloatBoxes$Model" "x" "[I") (List.mem_cons_of_mem _ (List.mem_append_left _ (List.mem_of_getElem? (i := 2) rfl)))) (fun _ h9 => h9) rfl dX3_dropRule_35 ?_
    refine lv_iload_n hx hb dX3_dropRule_38 rfl (lv_at hl 1 rfl) ?_
    refine lv_aload_n hx hb dX3_dropRule_39 rfl (lv_at hl 0 rfl) ?_
    refine va_get (D := D) (ci := 2) (v := .ref a_this_x) (C := RX3) (T := TX3) (N := 8) hx hb hts (fun _ h => (List.mem_cons_of_mem _ (List.mem_append_right _ h))) hown hK hP 0 rfl rfl 5 (by decide) (hts (.fieldLink RX3 21 "FloatBoxes$Model" "x" "[I") (List.mem_cons_of_mem _ (List.mem_append_left _ (List.mem_of_getElem? (i := 2) rfl)))) (fun _ h9 => h9) rfl dX3_dropRule_40 ?_
    refine lv_iload_n hx hb dX3_dropRule_43 rfl (lv_at hl 1 rfl) ?_
    refine lv_iconst (v := 1) hx hb dX3_dropRule_44 (by decide) ?_
    refine lv_iadd hx hb dX3_dropRule_45 ?_
    obtain ⟨h46, hf⟩ := o_in_go hf
    refine va_iald hx hb hK hP 2 0 rfl rfl h46 dX3_dropRule_46 ?_
    obtain ⟨h47, hf⟩ := o_in_go hf
    refine va_iast hx hb hK hP hD hS 2 0 rfl rfl h47 dX3_dropRule_47 (fun H locs hP hD hS => ?_)
    replace hP : va_P D vwCl (ww_X3_dropRule cI cM a_this a_this_low a_this_high a_this_kind a_this_x a_this_y a_this_z v_unknowns v_rules (upd v_kind x2.toNatClampNeg (v_kind (x2 + 1).toNatClampNeg)) (upd v_x x2.toNatClampNeg (v_x (x2 + 1).toNatClampNeg)) v_y v_z) H := hP
    replace hD : va_D A (ww_X3_dropRule cI cM a_this a_this_low a_this_high a_this_kind a_this_x a_this_y a_this_z v_unknowns v_rules (upd v_kind x2.toNatClampNeg (v_kind (x2 + 1).toNatClampNeg)) (upd v_x x2.toNatClampNeg (v_x (x2 + 1).toNatClampNeg)) v_y v_z) := hD
    refine lv_aload_n hx hb dX3_dropRule_48 rfl (lv_at hl 0 rfl) ?_
    refine va_get (D := D) (ci := 2) (v := .ref a_this_y) (C := RX3) (T := TX3) (N := 8) hx hb hts (fun _ h => (List.mem_cons_of_mem _ (List.mem_append_right _ h))) hown hK hP 0 rfl rfl 6 (by decide) (hts (.fieldLink RX3 24 "FloatBoxes$Model" "y" "[I") (List.mem_cons_of_mem _ (List.mem_append_left _ (List.mem_of_getElem? (i := 3) rfl)))) (fun _ h9 => h9) rfl dX3_dropRule_49 ?_
    refine lv_iload_n hx hb dX3_dropRule_52 rfl (lv_at hl 1 rfl) ?_
    refine lv_aload_n hx hb dX3_dropRule_53 rfl (lv_at hl 0 rfl) ?_
    refine va_get (D := D) (ci := 2) (v := .ref a_this_y) (C := RX3) (T := TX3) (N := 8) hx hb hts (fun _ h => (List.mem_cons_of_mem _ (List.mem_append_right _ h))) hown hK hP 0 rfl rfl 6 (by decide) (hts (.fieldLink RX3 24 "FloatBoxes$Model" "y" "[I") (List.mem_cons_of_mem _ (List.mem_append_left _ (List.mem_of_getElem? (i := 3) rfl)))) (fun _ h9 => h9) rfl dX3_dropRule_54 ?_
    refine lv_iload_n hx hb dX3_dropRule_57 rfl (lv_at hl 1 rfl) ?_
    refine lv_iconst (v := 1) hx hb dX3_dropRule_58 (by decide) ?_
    refine lv_iadd hx hb dX3_dropRule_59 ?_
    obtain ⟨h60, hf⟩ := o_in_go hf
    refine va_iald hx hb hK hP 3 0 rfl rfl h60 dX3_dropRule_60 ?_
    obtain ⟨h61, hf⟩ := o_in_go hf
    refine va_iast hx hb hK hP hD hS 3 0 rfl rfl h61 dX3_dropRule_61 (fun H locs hP hD hS => ?_)
    replace hP : va_P D vwCl (ww_X3_dropRule cI cM a_this a_this_low a_this_high a_this_kind a_this_x a_this_y a_this_z v_unknowns v_rules (upd v_kind x2.toNatClampNeg (v_kind (x2 + 1).toNatClampNeg)) (upd v_x x2.toNatClampNeg (v_x (x2 + 1).toNatClampNeg)) (upd v_y x2.toNatClampNeg (v_y (x2 + 1).toNatClampNeg)) v_z) H := hP
    replace hD : va_D A (ww_X3_dropRule cI cM a_this a_this_low a_this_high a_this_kind a_this_x a_this_y a_this_z v_unknowns v_rules (upd v_kind x2.toNatClampNeg (v_kind (x2 + 1).toNatClampNeg)) (upd v_x x2.toNatClampNeg (v_x (x2 + 1).toNatClampNeg)) (upd v_y x2.toNatClampNeg (v_y (x2 + 1).toNatClampNeg)) v_z) := hD
    refine lv_aload_n hx hb dX3_dropRule_62 rfl (lv_at hl 0 rfl) ?_
    refine va_get (D := D) (ci := 2) (v := .ref a_this_z) (C := RX3) (T := TX3) (N := 8) hx hb hts (fun _ h => (List.mem_cons_of_mem _ (List.mem_append_right _ h))) hown hK hP 0 rfl rfl 7 (by decide) (hts (.fieldLink RX3 27 "FloatBoxes$Model" "z" "[I") (List.mem_cons_of_mem _ (List.mem_append_left _ (List.mem_of_getElem? (i := 4) rfl)))) (fun _ h9 => h9) rfl dX3_dropRule_63 ?_
    refine lv_iload_n hx hb dX3_dropRule_66 rfl (lv_at hl 1 rfl) ?_
    refine lv_aload_n hx hb dX3_dropRule_67 rfl (lv_at hl 0 rfl) ?_
    refine va_get (D := D) (ci := 2) (v := .ref a_this_z) (C := RX3) (T := TX3) (N := 8) hx hb hts (fun _ h => (List.mem_cons_of_mem _ (List.mem_append_right _ h))) hown hK hP 0 rfl rfl 7 (by decide) (hts (.fieldLink RX3 27 "FloatBoxes$Model" "z" "[I") (List.mem_cons_of_mem _ (List.mem_append_left _ (List.mem_of_getElem? (i := 4) rfl)))) (fun _ h9 => h9) rfl dX3_dropRule_68 ?_
    refine lv_iload_n hx hb dX3_dropRule_71 rfl (lv_at hl 1 rfl) ?_
    refine lv_iconst (v := 1) hx hb dX3_dropRule_72 (by decide) ?_
    refine lv_iadd hx hb dX3_dropRule_73 ?_
    obtain ⟨h74, hf⟩ := o_in_go hf
    refine va_iald hx hb hK hP 4 0 rfl rfl h74 dX3_dropRule_74 ?_
    obtain ⟨h75, hf⟩ := o_in_go hf
    refine va_iast hx hb hK hP hD hS 4 0 rfl rfl h75 dX3_dropRule_75 (fun H locs hP hD hS => ?_)
    replace hP : va_P D vwCl (ww_X3_dropRule cI cM a_this a_this_low a_this_high a_this_kind a_this_x a_this_y a_this_z v_unknowns v_rules (upd v_kind x2.toNatClampNeg (v_kind (x2 + 1).toNatClampNeg)) (upd v_x x2.toNatClampNeg (v_x (x2 + 1).toNatClampNeg)) (upd v_y x2.toNatClampNeg (v_y (x2 + 1).toNatClampNeg)) (upd v_z x2.toNatClampNeg (v_z (x2 + 1).toNatClampNeg))) H := hP
    replace hD : va_D A (ww_X3_dropRule cI cM a_this a_this_low a_this_high a_this_kind a_this_x a_this_y a_this_z v_unknowns v_rules (upd v_kind x2.toNatClampNeg (v_kind (x2 + 1).toNatClampNeg)) (upd v_x x2.toNatClampNeg (v_x (x2 + 1).toNatClampNeg)) (upd v_y x2.toNatClampNeg (v_y (x2 + 1).toNatClampNeg)) (upd v_z x2.toNatClampNeg (v_z (x2 + 1).toNatClampNeg))) := hD
    refine lv_iinc (v := x2 + 1) (lv' := [(2, .int (x2 + 1)), (0, .ref a_this)]) hx hb dX3_dropRule_76 hl (k := 1) rfl rfl (by decide) rfl (fun ls hl => ?_)
    refine lv_goto (tgt := 12) hx hb dX3_dropRule_79 (by decide) ?_
    exact hk12 v_rules (upd v_kind x2.toNatClampNeg (v_kind (x2 + 1).toNatClampNeg)) (upd v_x x2.toNatClampNeg (v_x (x2 + 1).toNatClampNeg)) (upd v_y x2.toNatClampNeg (v_y (x2 + 1).toNatClampNeg)) (upd v_z x2.toNatClampNeg (v_z (x2 + 1).toNatClampNeg)) (x2 + 1) H locs ls hf hP hD hS (lv_sub hl [1, 0] rfl)
set_option maxHeartbeats 4000000 in
set_option maxRecDepth 100000 in
theorem w_X3_dropRule_L12 {p : Program} {l : Launch} {e : Env} {s : State} {m : MethodId} {args : Array Value} {below : List Frame} {meth : Method} {c : Code} {D : va_G} {cI cM : ClassId} {A : Nat → Prop} {a_this a_this_low a_this_high a_this_kind a_this_x a_this_y a_this_z : Nat} {v_unknowns : Int32} {N : Nat} {r : Int32} {o_rules : Int32} {o_kind : Nat → Int32} {o_x : Nat → Int32} {o_y : Nat → Int32} {o_z : Nat → Int32} (C0 : g_cx cX3_dropRule (some .int) 3 RX3 wsX3_dropRule p s m args meth c) (hA : ∀ q, s.heap.size ≤ q → A q) (hK : va_K D vwCl (g_tys cI cM) s) : ∀ n : Nat, ∀ (v_rules : Int32) (v_kind : Nat → Int32) (v_x : Nat → Int32) (v_y : Nat → Int32) (v_z : Nat → Int32) (x2 : Int32) (H : Heap) (locs : List Loc) (ls : Array Slot), f_X3_dropRule_L12 N n v_rules v_kind v_x v_y v_z x2 = some (r, o_rules, o_kind, o_x, o_y, o_z) → va_P D vwCl (ww_X3_dropRule cI cM a_this a_this_low a_this_high a_this_kind a_this_x a_this_y a_this_z v_unknowns v_rules v_kind v_x v_y v_z) H → va_D A (ww_X3_dropRule cI cM a_this a_this_low a_this_high a_this_kind a_this_x a_this_y a_this_z v_unknowns v_rules v_kind v_x v_y v_z) → va_S A s.heap H locs → lv_has ls 3 [(0, .ref a_this), (2, .int x2)] → W p l e rm_X3_dropRule s m args below meth c H locs 0 0 (MQ below (g_QI D (g_tys cI cM) A (ww_X3_dropRule cI cM a_this a_this_low a_this_high a_this_kind a_this_x a_this_y a_this_z v_unknowns o_rules o_kind o_x o_y o_z) r) args s 0 0 A) (F0 m 12 ls []) := by
  intro n
  induction n with
  | zero =>
    intro v_rules v_kind v_x v_y v_z x2 H locs ls hf
    exact absurd hf (fun h => nomatch h)
  | succ n ih =>
    intro v_rules v_kind v_x v_y v_z x2 H locs ls hf
    exact w_X3_dropRule_C12 C0 hA hK _ ih v_rules v_kind v_x v_y v_z x2 H locs ls hf
def f_X3_dropRule (N : Nat) (v_rules : Int32) (v_kind : Nat → Int32) (v_x : Nat → Int32) (v_y : Nat → Int32) (v_z : Nat → Int32) (x1 : Int32) : Option (Int32 × Int32 × (Nat → Int32) × (Nat → Int32) × (Nat → Int32) × (Nat → Int32)) :=
  f_X3_dropRule_L12 N N (v_rules - 1) v_kind v_x v_y v_z x1
set_option maxHeartbeats 4000000 in
set_option maxRecDepth 100000 in
theorem w_X3_dropRule_B0 {p : Program} {l : Launch} {e : Env} {s : State} {m : MethodId} {args : Array Value} {below : List Frame} {meth : Method} {c : Code} {D : va_G} {cI cM : ClassId} {A : Nat → Prop} {a_this a_this_low a_this_high a_this_kind a_this_x a_this_y a_this_z : Nat} {v_unknowns : Int32} {N : Nat} {r : Int32} {o_rules : Int32} {o_kind : Nat → Int32} {o_x : Nat → Int32} {o_y : Nat → Int32} {o_z : Nat → Int32} (C0 : g_cx cX3_dropRule (some .int) 3 RX3 wsX3_dropRule p s m args meth c) (hA : ∀ q, s.heap.size ≤ q → A q) (hK : va_K D vwCl (g_tys cI cM) s) : ∀ (v_rules : Int32) (v_kind : Nat → Int32) (v_x : Nat → Int32) (v_y : Nat → Int32) (v_z : Nat → Int32) (x1 : Int32) (H : Heap) (locs : List Loc) (ls : Array Slot), f_X3_dropRule N v_rules v_kind v_x v_y v_z x1 = some (r, o_rules, o_kind, o_x, o_y, o_z) → va_P D vwCl (ww_X3_dropRule cI cM a_this a_this_low a_this_high a_this_kind a_this_x a_this_y a_this_z v_unknowns v_rules v_kind v_x v_y v_z) H → va_D A (ww_X3_dropRule cI cM a_this a_this_low a_this_high a_this_kind a_this_x a_this_y a_this_z v_unknowns v_rules v_kind v_x v_y v_z) → va_S A s.heap H locs → lv_has ls 3 [(0, .ref a_this), (1, .int x1)] → W p l e rm_X3_dropRule s m args below meth c H locs 0 0 (MQ below (g_QI D (g_tys cI cM) A (ww_X3_dropRule cI cM a_this a_this_low a_this_high a_this_kind a_this_x a_this_y a_this_z v_unknowns o_rules o_kind o_x o_y o_z) r) args s 0 0 A) (F0 m 0 ls []) := by
  obtain ⟨hx, hb, hr, hml, hown, hts, hlocks⟩ := id C0
  intro v_rules v_kind v_x v_y v_z x1 H locs ls hf hP hD hS hl
  unfold f_X3_dropRule at hf
  refine lv_aload_n hx hb dX3_dropRule_0 rfl (lv_at hl 0 rfl) ?_
  refine lv_dup hx hb dX3_dropRule_1 rfl ?_
  refine va_get (D := D) (ci := 2) (v := .int v_rules) (C := RX3) (T := TX3) (N := 8) hx hb hts (fun _ h => (List.mem_cons_of_mem _ (List.mem_append_right _ h))) hown hK hP 0 rfl rfl 1 (by decide) (hts (.fieldLink RX3 34 "FloatBoxes$Model" "rules" "I") (List.mem_cons_of_mem _ (List.mem_append_left _ (List.mem_of_getElem? (i := 0) rfl)))) (fun _ h9 => h9) rfl dX3_dropRule_2 ?_
  refine lv_iconst (v := 1) hx hb dX3_dropRule_5 (by decide) ?_
  refine lv_isub hx hb dX3_dropRule_6 ?_
  refine va_put (D := D) (ci := 2) (v := .int (v_rules - 1)) (ty := .int) (C := RX3) (T := TX3) (N := 8) hx hb hts (fun _ h => (List.mem_cons_of_mem _ (List.mem_append_right _ h))) tyX3 tyX3_ok nmX3 hown hK hP hD hS 0 rfl rfl 1 (by decide) (hts (.fieldLink RX3 34 "FloatBoxes$Model" "rules" "I") (List.mem_cons_of_mem _ (List.mem_append_left _ (List.mem_of_getElem? (i := 0) rfl)))) (fun _ h9 => h9) rfl (by decide +kernel) rfl rfl (Nat.le_of_ble_eq_true rfl) dX3_dropRule_7 (fun H locs hP hD hS => ?_)
  replace hP : va_P D vwCl (ww_X3_dropRule cI cM a_this a_this_low a_this_high a_this_kind a_this_x a_this_y a_this_z v_unknowns (v_rules - 1) v_kind v_x v_y v_z) H := hP
  replace hD : va_D A (ww_X3_dropRule cI cM a_this a_this_low a_this_high a_this_kind a_this_x a_this_y a_this_z v_unknowns (v_rules - 1) v_kind v_x v_y v_z) := hD
  refine lv_iload_n hx hb dX3_dropRule_10 rfl (lv_at hl 1 rfl) ?_
  refine lv_istore_n (lv' := [(2, .int x1), (0, .ref a_this), (1, .int x1)]) hx hb dX3_dropRule_11 rfl hl (by decide) rfl (fun ls hl => ?_)
  exact w_X3_dropRule_L12 C0 hA hK N (v_rules - 1) v_kind v_x v_y v_z x1 H locs ls hf hP hD hS (lv_sub hl [1, 0] rfl)
set_option maxHeartbeats 4000000 in
set_option maxRecDepth 100000 in
theorem c_X3_dropRule (l : Launch) (D : va_G) (cI cM : ClassId) (a_this a_this_low a_this_high a_this_kind a_this_x a_this_y a_this_z : Nat) (sz : Nat) (v_unknowns : Int32) (v_rules : Int32) (v_kind : Nat → Int32) (v_x : Nat → Int32) (v_y : Nat → Int32) (v_z : Nat → Int32) {N : Nat} {x1 : Int32} {r : Int32} {o_rules : Int32} {o_kind : Nat → Int32} {o_x : Nat → Int32} {o_y : Nat → Int32} {o_z : Nat → Int32} (hf : f_X3_dropRule N v_rules v_kind v_x v_y v_z x1 = some (r, o_rules, o_kind, o_x, o_y, o_z)) : Met l yX3_dropRule wsX3_dropRule rm_X3_dropRule (g_Pc D (g_tys cI cM) (ww_X3_dropRule cI cM a_this a_this_low a_this_high a_this_kind a_this_x a_this_y a_this_z v_unknowns v_rules v_kind v_x v_y v_z) sz [.ref a_this, .int x1]) (g_QI D (g_tys cI cM) (va_A (ww_X3_dropRule cI cM a_this a_this_low a_this_high a_this_kind a_this_x a_this_y a_this_z v_unknowns v_rules v_kind v_x v_y v_z) sz) (ww_X3_dropRule cI cM a_this a_this_low a_this_high a_this_kind a_this_x a_this_y a_this_z v_unknowns o_rules o_kind o_x o_y o_z) r) 0 0 (va_A (ww_X3_dropRule cI cM a_this a_this_low a_this_high a_this_kind a_this_x a_this_y a_this_z v_unknowns v_rules v_kind v_x v_y v_z) sz) := by
  refine g_met (cc := cX3_dropRule) (maxL := 3) (ret := (some .int)) (Qc := fun D A => g_QI D (g_tys cI cM) A (ww_X3_dropRule cI cM a_this a_this_low a_this_high a_this_kind a_this_x a_this_y a_this_z v_unknowns o_rules o_kind o_x o_y o_z) r) (by decide) rfl ?_
  intro p e s m below meth c A C0 hA hK hP hD
  have hl := lv_entry ([.ref a_this, .int x1]) (n := 3) (Nat.le_of_ble_eq_true rfl)
  rw [lg_entry_eq]
  generalize (lg_sl ([.ref a_this, .int x1]) ++ List.replicate (3 - (lg_sl ([.ref a_this, .int x1])).length) Slot.unset).toArray = ls at hl ⊢
  have hl : lv_has ls 3 [(0, .ref a_this), (1, .int x1)] := hl
  exact w_X3_dropRule_B0 C0 hA hK v_rules v_kind v_x v_y v_z x1 s.heap [] ls hf hP hD va_S.rf (lv_sub hl [0, 1] rfl)
/-! FloatBoxes$Model.rulesOf(I)I -/
abbrev rm_X3_rulesOf : Room := { frames := 0, cells := 0, slots := 0, locals := 0 }
abbrev ww_X3_rulesOf (cI cM : ClassId) (a_this a_this_low a_this_high a_this_kind a_this_x a_this_y a_this_z : Nat) (v_unknowns : Int32) (v_rules : Int32) (v_x : Nat → Int32) (v_y : Nat → Int32) (v_kind : Nat → Int32) (v_z : Nat → Int32) : va_W := [(a_this, .inr (2, [.int v_unknowns, .int v_rules, .ref a_this_low, .ref a_this_high, .ref a_this_kind, .ref a_this_x, .ref a_this_y, .ref a_this_z])), (a_this_x, .inl (cI, 6, .inl v_x)), (a_this_y, .inl (cI, 6, .inl v_y)), (a_this_kind, .inl (cI, 6, .inl v_kind)), (a_this_z, .inl (cI, 6, .inl v_z))]
def f_X3_rulesOf_B55 (N : Nat) (v_rules : Int32) (v_x : Nat → Int32) (v_y : Nat → Int32) (v_kind : Nat → Int32) (v_z : Nat → Int32) (k4 : Int32 → Int32 → Int32 → Option (Int32)) (x1 : Int32) (x2 : Int32) (x3 : Int32) : Option (Int32) :=
  k4 x1 x2 (x3 + 1)
set_option maxHeartbeats 4000000 in
set_option maxRecDepth 100000 in
theorem w_X3_rulesOf_B55 {p : Program} {l : Launch} {e : Env} {s : State} {m : MethodId} {args : Array Value} {below : List Frame} {meth : Method} {c : Code} {D : va_G} {cI cM : ClassId} {A : Nat → Prop} {a_this a_this_low a_this_high a_this_kind a_this_x a_this_y a_this_z : Nat} {v_unknowns : Int32} {N : Nat} {v_rules : Int32} {v_x : Nat → Int32} {v_y : Nat → Int32} {v_kind : Nat → Int32} {v_z : Nat → Int32} {r : Int32} (C0 : g_cx cX3_rulesOf (some .int) 4 RX3 wsX3_rulesOf p s m args meth c) (hA : ∀ q, s.heap.size ≤ q → A q) (hK : va_K D vwCl (g_tys cI cM) s) (k4 : Int32 → Int32 → Int32 → Option (Int32)) (hk4 : ∀ (x1 : Int32) (x2 : Int32) (x3 : Int32) (H : Heap) (locs : List Loc) (ls : Array Slot), k4 x1 x2 x3 = some r → va_P D vwCl (ww_X3_rulesOf cI cM a_this a_this_low a_this_high a_this_kind a_this_x a_this_y a_this_z v_unknowns v_rules v_x v_y v_kind v_z) H → va_D A (ww_X3_rulesOf cI cM a_this a_this_low a_this_high a_this_kind a_this_x a_this_y a_this_z v_unknowns v_rules v_x v_y v_kind v_z) → va_S A s.heap H locs → lv_has ls 4 [(0, .ref a_this), (1, .int x1), (2, .int x2), (3, .int x3)] → W p l e rm_X3_rulesOf s m args below meth c H locs 0 0 (MQ below (g_QI D (g_tys cI cM) A (ww_X3_rulesOf cI cM a_this a_this_low a_this_high a_this_kind a_this_x a_this_y a_this_z v_unknowns v_rules v_x v_y v_kind v_z) r) args s 0 0 A) (F0 m 4 ls [])) : ∀ (x1 : Int32) (x2 : Int32) (x3 : Int32) (H : Heap) (locs : List Loc) (ls : Array Slot), f_X3_rulesOf_B55 N v_rules v_x v_y v_kind v_z k4 x1 x2 x3 = some r → va_P D vwCl (ww_X3_rulesOf cI cM a_this a_this_low a_this_high a_this_kind a_this_x a_this_y a_this_z v_unknowns v_rules v_x v_y v_kind v_z) H → va_D A (ww_X3_rulesOf cI cM a_this a_this_low a_this_high a_this_kind a_this_x a_this_y a_this_z v_unknowns v_rules v_x v_y v_kind v_z) → va_S A s.heap H locs → lv_has ls 4 [(0, .ref a_this), (1, .int x1), (2, .int x2), (3, .int x3)] → W p l e rm_X3_rulesOf s m args below meth c H locs 0 0 (MQ below (g_QI D (g_tys cI cM) A (ww_X3_rulesOf cI cM a_this a_this_low a_this_high a_this_kind a_this_x a_this_y a_this_z v_unknowns v_rules v_x v_y v_kind v_z) r) args s 0 0 A) (F0 m 55 ls []) := by
  obtain ⟨hx, hb, hr, hml, hown, hts, hlocks⟩ := id C0
  intro x1 x2 x3 H locs ls hf hP hD hS hl
  unfold f_X3_rulesOf_B55 at hf
  refine lv_iinc (v := x3 + 1) (lv' := [(3, .int (x3 + 1)), (0, .ref a_this), (1, .int x1), (2, .int x2)]) hx hb dX3_rulesOf_55 hl (k := 3) rfl rfl (by decide) rfl (fun ls hl => ?_)
  refine lv_goto (tgt := 4) hx hb dX3_rulesOf_58 (by decide) ?_
  exact hk4 x1 x2 (x3 + 1) H locs ls hf hP hD hS (lv_sub hl [1, 2, 3, 0] rfl)
def f_X3_rulesOf_B52 (N : Nat) (v_rules : Int32) (v_x : Nat → Int32) (v_y : Nat → Int32) (v_kind : Nat → Int32) (v_z : Nat → Int32) (k4 : Int32 → Int32 → Int32 → Option (Int32)) (x1 : Int32) (x2 : Int32) (x3 : Int32) : Option (Int32) :=
  f_X3_rulesOf_B55 N v_rules v_x v_y v_kind v_z k4 x1 (x2 + 1) x3
set_option maxHeartbeats 4000000 in
set_option maxRecDepth 100000 in
theorem w_X3_rulesOf_B52 {p : Program} {l : Launch} {e : Env} {s : State} {m : MethodId} {args : Array Value} {below : List Frame} {meth : Method} {c : Code} {D : va_G} {cI cM : ClassId} {A : Nat → Prop} {a_this a_this_low a_this_high a_this_kind a_this_x a_this_y a_this_z : Nat} {v_unknowns : Int32} {N : Nat} {v_rules : Int32} {v_x : Nat → Int32} {v_y : Nat → Int32} {v_kind : Nat → Int32} {v_z : Nat → Int32} {r : Int32} (C0 : g_cx cX3_rulesOf (some .int) 4 RX3 wsX3_rulesOf p s m args meth c) (hA : ∀ q, s.heap.size ≤ q → A q) (hK : va_K D vwCl (g_tys cI cM) s) (k4 : Int32 → Int32 → Int32 → Option (Int32)) (hk4 : ∀ (x1 : Int32) (x2 : Int32) (x3 : Int32) (H : Heap) (locs : List Loc) (ls : Array Slot), k4 x1 x2 x3 = some r → va_P D vwCl (ww_X3_rulesOf cI cM a_this a_this_low a_this_high a_this_kind a_this_x a_this_y a_this_z v_unknowns v_rules v_x v_y v_kind v_z) H → va_D A (ww_X3_rulesOf cI cM a_this a_this_low a_this_high a_this_kind a_this_x a_this_y a_this_z v_unknowns v_rules v_x v_y v_kind v_z) → va_S A s.heap H locs → lv_has ls 4 [(0, .ref a_this), (1, .int x1), (2, .int x2), (3, .int x3)] → W p l e rm_X3_rulesOf s m args below meth c H locs 0 0 (MQ below (g_QI D (g_tys cI cM) A (ww_X3_rulesOf cI cM a_this a_this_low a_this_high a_this_kind a_this_x a_this_y a_this_z v_unknowns v_rules v_x v_y v_kind v_z) r) args s 0 0 A) (F0 m 4 ls [])) : ∀ (x1 : Int32) (x2 : Int32) (x3 : Int32) (H : Heap) (locs : List Loc) (ls : Array Slot), f_X3_rulesOf_B52 N v_rules v_x v_y v_kind v_z k4 x1 x2 x3 = some r → va_P D vwCl (ww_X3_rulesOf cI cM a_this a_this_low a_this_high a_this_kind a_this_x a_this_y a_this_z v_unknowns v_rules v_x v_y v_kind v_z) H → va_D A (ww_X3_rulesOf cI cM a_this a_this_low a_this_high a_this_kind a_this_x a_this_y a_this_z v_unknowns v_rules v_x v_y v_kind v_z) → va_S A s.heap H locs → lv_has ls 4 [(0, .ref a_this), (1, .int x1), (2, .int x2), (3, .int x3)] → W p l e rm_X3_rulesOf s m args below meth c H locs 0 0 (MQ below (g_QI D (g_tys cI cM) A (ww_X3_rulesOf cI cM a_this a_this_low a_this_high a_this_kind a_this_x a_this_y a_this_z v_unknowns v_rules v_x v_y v_kind v_z) r) args s 0 0 A) (F0 m 52 ls []) := by
  obtain ⟨hx, hb, hr, hml, hown, hts, hlocks⟩ := id C0
  intro x1 x2 x3 H locs ls hf hP hD hS hl
  unfold f_X3_rulesOf_B52 at hf
  refine lv_iinc (v := x2 + 1) (lv' := [(2, .int (x2 + 1)), (0, .ref a_this), (1, .int x1), (3, .int x3)]) hx hb dX3_rulesOf_52 hl (k := 2) rfl rfl (by decide) rfl (fun ls hl => ?_)
  exact w_X3_rulesOf_B55 C0 hA hK k4 hk4 x1 (x2 + 1) x3 H locs ls hf hP hD hS (lv_sub hl [1, 2, 0, 3] rfl)
def f_X3_rulesOf_C4 (N : Nat) (v_rules : Int32) (v_x : Nat → Int32) (v_y : Nat → Int32) (v_kind : Nat → Int32) (v_z : Nat → Int32) (k4 : Int32 → Int32 → Int32 → Option (Int32)) (x1 : Int32) (x2 : Int32) (x3 : Int32) : Option (Int32) :=
  if v_rules ≤ x3 then
    some x2
  else
    o_in x3 6 (
    if (v_x x3.toNatClampNeg) = x1 then
      f_X3_rulesOf_B52 N v_rules v_x v_y v_kind v_z k4 x1 x2 x3
    else
      o_in x3 6 (
      if (v_y x3.toNatClampNeg) = x1 then
        f_X3_rulesOf_B52 N v_rules v_x v_y v_kind v_z k4 x1 x2 x3
      else
        o_in x3 6 (
        if 3 ≤ (v_kind x3.toNatClampNeg) then
          f_X3_rulesOf_B55 N v_rules v_x v_y v_kind v_z k4 x1 x2 x3
        else
          o_in x3 6 (
          if (v_z x3.toNatClampNeg) = x1 then
            f_X3_rulesOf_B52 N v_rules v_x v_y v_kind v_z k4 x1 x2 x3
          else
            f_X3_rulesOf_B55 N v_rules v_x v_y v_kind v_z k4 x1 x2 x3))))
def f_X3_rulesOf_L4 (N : Nat) (v_rules : Int32) (v_x : Nat → Int32) (v_y : Nat → Int32) (v_kind : Nat → Int32) (v_z : Nat → Int32) : Nat → Int32 → Int32 → Int32 → Option (Int32)
  | 0 => fun _ _ _ => none
  | n + 1 => f_X3_rulesOf_C4 N v_rules v_x v_y v_kind v_z (f_X3_rulesOf_L4 N v_rules v_x v_y v_kind v_z n)
set_option maxHeartbeats 4000000 in
set_option maxRecDepth 100000 in
theorem w_X3_rulesOf_C4 {p : Program} {l : Launch} {e : Env} {s : State} {m : MethodId} {args : Array Value} {below : List Frame} {meth : Method} {c : Code} {D : va_G} {cI cM : ClassId} {A : Nat → Prop} {a_this a_this_low a_this_high a_this_kind a_this_x a_this_y a_this_z : Nat} {v_unknowns : Int32} {N : Nat} {v_rules : Int32} {v_x : Nat → Int32} {v_y : Nat → Int32} {v_kind : Nat → Int32} {v_z : Nat → Int32} {r : Int32} (C0 : g_cx cX3_rulesOf (some .int) 4 RX3 wsX3_rulesOf p s m args meth c) (hA : ∀ q, s.heap.size ≤ q → A q) (hK : va_K D vwCl (g_tys cI cM) s) (k4 : Int32 → Int32 → Int32 → Option (Int32)) (hk4 : ∀ (x1 : Int32) (x2 : Int32) (x3 : Int32) (H : Heap) (locs : List Loc) (ls : Array Slot), k4 x1 x2 x3 = some r → va_P D vwCl (ww_X3_rulesOf cI cM a_this a_this_low a_this_high a_this_kind a_this_x a_this_y a_this_z v_unknowns v_rules v_x v_y v_kind v_z) H → va_D A (ww_X3_rulesOf cI cM a_this a_this_low a_this_high a_this_kind a_this_x a_this_y a_this_z v_unknowns v_rules v_x v_y v_kind v_z) → va_S A s.heap H locs → lv_has ls 4 [(0, .ref a_this), (1, .int x1), (2, .int x2), (3, .int x3)] → W p l e rm_X3_rulesOf s m args below meth c H locs 0 0 (MQ below (g_QI D (g_tys cI cM) A (ww_X3_rulesOf cI cM a_this a_this_low a_this_high a_this_kind a_this_x a_this_y a_this_z v_unknowns v_rules v_x v_y v_kind v_z) r) args s 0 0 A) (F0 m 4 ls [])) : ∀ (x1 : Int32) (x2 : Int32) (x3 : Int32) (H : Heap) (locs : List Loc) (ls : Array Slot), f_X3_rulesOf_C4 N v_rules v_x v_y v_kind v_z k4 x1 x2 x3 = some r → va_P D vwCl (ww_X3_rulesOf cI cM a_this a_this_low a_this_high a_this_kind a_this_x a_this_y a_this_z v_unknowns v_rules v_x v_y v_kind v_z) H → va_D A (ww_X3_rulesOf cI cM a_this a_this_low a_this_high a_this_kind a_this_x a_this_y a_this_z v_unknowns v_rules v_x v_y v_kind v_z) → va_S A s.heap H locs → lv_has ls 4 [(0, .ref a_this), (1, .int x1), (2, .int x2), (3, .int x3)] → W p l e rm_X3_rulesOf s m args below meth c H locs 0 0 (MQ below (g_QI D (g_tys cI cM) A (ww_X3_rulesOf cI cM a_this a_this_low a_this_high a_this_kind a_this_x a_this_y a_this_z v_unknowns v_rules v_x v_y v_kind v_z) r) args s 0 0 A) (F0 m 4 ls []) := by
  obtain ⟨hx, hb, hr, hml, hown, hts, hlocks⟩ := id C0
  intro x1 x2 x3 H locs ls hf hP hD hS hl
  unfold f_X3_rulesOf_C4 at hf
  refine lv_iload_n hx hb dX3_rulesOf_4 rfl (lv_at hl 3 rfl) ?_
  refine lv_aload_n hx hb dX3_rulesOf_5 rfl (lv_at hl 0 rfl) ?_
  refine va_get (D := D) (ci := 2) (v := .int v_rules) (C := RX3) (T := TX3) (N := 8) hx hb hts (fun _ h => (List.mem_cons_of_mem _ (List.mem_append_right _ h))) hown hK hP 0 rfl rfl 1 (by decide) (hts (.fieldLink RX3 34 "FloatBoxes$Model" "rules" "I") (List.mem_cons_of_mem _ (List.mem_append_left _ (List.mem_of_getElem? (i := 0) rfl)))) (fun _ h9 => h9) rfl dX3_rulesOf_6 ?_
  refine lv_icmp_ge (tgt := 61) hx hb dX3_rulesOf_9 (by decide) (fun c9 => ?_) (fun c9 => ?_)
  · replace hf := o_t c9 hf
    refine lv_iload_n hx hb dX3_rulesOf_61 rfl (lv_at hl 2 rfl) ?_
    have q0 := Option.some.inj hf
    subst q0
    exact g_iret hx hb hr hlocks hP hD hK hS dX3_rulesOf_62
  · replace hf := o_f c9 hf
    refine lv_aload_n hx hb dX3_rulesOf_12 rfl (lv_at hl 0 rfl) ?_
    refine va_get (D := D) (ci := 2) (v := .ref a_this_x) (C := RX3) (T := TX3) (N := 8) hx hb hts (fun _ h => (List.mem_cons_of_mem _ (List.mem_append_right _ h))) hown hK hP 0 rfl rfl 5 (by decide) (hts (.fieldLink RX3 21 "FloatBoxes$Model" "x" "[I") (List.mem_cons_of_mem _ (List.mem_append_left _ (List.mem_of_getElem? (i := 1) rfl)))) (fun _ h9 => h9) rfl dX3_rulesOf_13 ?_
    refine lv_iload_n hx hb dX3_rulesOf_16 rfl (lv_at hl 3 rfl) ?_
    obtain ⟨h17, hf⟩ := o_in_go hf
    refine va_iald hx hb hK hP 1 0 rfl rfl h17 dX3_rulesOf_17 ?_
    refine lv_iload_n hx hb dX3_rulesOf_18 rfl (lv_at hl 1 rfl) ?_
    refine lv_icmp_eq (tgt := 52) hx hb dX3_rulesOf_19 (by decide) (fun c19 => ?_) (fun c19 => ?_)
    · replace hf := o_t c19 hf
      exact w_X3_rulesOf_B52 C0 hA hK k4 hk4 x1 x2 x3 H locs ls hf hP hD hS (lv_sub hl [0, 1, 2, 3] rfl)
    · replace hf := o_f c19 hf
      refine lv_aload_n hx hb dX3_rulesOf_22 rfl (lv_at hl 0 rfl) ?_
      refine va_get (D := D) (ci := 2) (v := .ref a_this_y) (C := RX3) (T := TX3) (N := 8) hx hb hts (fun _ h => (List.mem_cons_of_mem _ (List.mem_append_right _ h))) hown hK hP 0 rfl rfl 6 (by decide) (hts (.fieldLink RX3 24 "FloatBoxes$Model" "y" "[I") (List.mem_cons_of_mem _ (List.mem_append_left _ (List.mem_of_getElem? (i := 2) rfl)))) (fun _ h9 => h9) rfl dX3_rulesOf_23 ?_
      refine lv_iload_n hx hb dX3_rulesOf_26 rfl (lv_at hl 3 rfl) ?_
      obtain ⟨h27, hf⟩ := o_in_go hf
      refine va_iald hx hb hK hP 2 0 rfl rfl h27 dX3_rulesOf_27 ?_
      refine lv_iload_n hx hb dX3_rulesOf_28 rfl (lv_at hl 1 rfl) ?_
      refine lv_icmp_eq (tgt := 52) hx hb dX3_rulesOf_29 (by decide) (fun c29 => ?_) (fun c29 => ?_)
      · replace hf := o_t c29 hf
        exact w_X3_rulesOf_B52 C0 hA hK k4 hk4 x1 x2 x3 H locs ls hf hP hD hS (lv_sub hl [0, 1, 2, 3] rfl)
      · replace hf := o_f c29 hf
        refine lv_aload_n hx hb dX3_rulesOf_32 rfl (lv_at hl 0 rfl) ?_
        refine va_get (D := D) (ci := 2) (v := .ref a_this_kind) (C := RX3) (T := TX3) (N := 8) hx hb hts (fun _ h => (List.mem_cons_of_mem _ (List.mem_append_right _ h))) hown hK hP 0 rfl rfl 4 (by decide) (hts (.fieldLink RX3 18 "FloatBoxes$Model" "kind" "[I") (List.mem_cons_of_mem _ (List.mem_append_left _ (List.mem_of_getElem? (i := 3) rfl)))) (fun _ h9 => h9) rfl dX3_rulesOf_33 ?_
        refine lv_iload_n hx hb dX3_rulesOf_36 rfl (lv_at hl 3 rfl) ?_
        obtain ⟨h37, hf⟩ := o_in_go hf
        refine va_iald hx hb hK hP 3 0 rfl rfl h37 dX3_rulesOf_37 ?_
        refine lv_iconst (v := 3) hx hb dX3_rulesOf_38 (by decide) ?_
        refine lv_icmp_ge (tgt := 55) hx hb dX3_rulesOf_39 (by decide) (fun c39 => ?_) (fun c39 => ?_)
        · replace hf := o_t c39 hf
          exact w_X3_rulesOf_B55 C0 hA hK k4 hk4 x1 x2 x3 H locs ls hf hP hD hS (lv_sub hl [0, 1, 2, 3] rfl)
        · replace hf := o_f c39 hf
          refine lv_aload_n hx hb dX3_rulesOf_42 rfl (lv_at hl 0 rfl) ?_
          refine va_get (D := D) (ci := 2) (v := .ref a_this_z) (C := RX3) (T := TX3) (N := 8) hx hb hts (fun _ h => (List.mem_cons_of_mem _ (List.mem_append_right _ h))) hown hK hP 0 rfl rfl 7 (by decide) (hts (.fieldLink RX3 27 "FloatBoxes$Model" "z" "[I") (List.mem_cons_of_mem _ (List.mem_append_left _ (List.mem_of_getElem? (i := 4) rfl)))) (fun _ h9 => h9) rfl dX3_rulesOf_43 ?_
          refine lv_iload_n hx hb dX3_rulesOf_46 rfl (lv_at hl 3 rfl) ?_
          obtain ⟨h47, hf⟩ := o_in_go hf
          refine va_iald hx hb hK hP 4 0 rfl rfl h47 dX3_rulesOf_47 ?_
          refine lv_iload_n hx hb dX3_rulesOf_48 rfl (lv_at hl 1 rfl) ?_
          refine lv_icmp_ne (tgt := 55) hx hb dX3_rulesOf_49 (by decide) (fun c49 => ?_) (fun c49 => ?_)
          · replace hf := o_f c49 hf
            exact w_X3_rulesOf_B55 C0 hA hK k4 hk4 x1 x2 x3 H locs ls hf hP hD hS (lv_sub hl [0, 1, 2, 3] rfl)
          · replace hf := o_t c49 hf
            exact w_X3_rulesOf_B52 C0 hA hK k4 hk4 x1 x2 x3 H locs ls hf hP hD hS (lv_sub hl [0, 1, 2, 3] rfl)
set_option maxHeartbeats 4000000 in
set_option maxRecDepth 100000 in
theorem w_X3_rulesOf_L4 {p : Program} {l : Launch} {e : Env} {s : State} {m : MethodId} {args : Array Value} {below : List Frame} {meth : Method} {c : Code} {D : va_G} {cI cM : ClassId} {A : Nat → Prop} {a_this a_this_low a_this_high a_this_kind a_this_x a_this_y a_this_z : Nat} {v_unknowns : Int32} {N : Nat} {v_rules : Int32} {v_x : Nat → Int32} {v_y : Nat → Int32} {v_kind : Nat → Int32} {v_z : Nat → Int32} {r : Int32} (C0 : g_cx cX3_rulesOf (some .int) 4 RX3 wsX3_rulesOf p s m args meth c) (hA : ∀ q, s.heap.size ≤ q → A q) (hK : va_K D vwCl (g_tys cI cM) s) : ∀ n : Nat, ∀ (x1 : Int32) (x2 : Int32) (x3 : Int32) (H : Heap) (locs : List Loc) (ls : Array Slot), f_X3_rulesOf_L4 N v_rules v_x v_y v_kind v_z n x1 x2 x3 = some r → va_P D vwCl (ww_X3_rulesOf cI cM a_this a_this_low a_this_high a_this_kind a_this_x a_this_y a_this_z v_unknowns v_rules v_x v_y v_kind v_z) H → va_D A (ww_X3_rulesOf cI cM a_this a_this_low a_this_high a_this_kind a_this_x a_this_y a_this_z v_unknowns v_rules v_x v_y v_kind v_z) → va_S A s.heap H locs → lv_has ls 4 [(0, .ref a_this), (1, .int x1), (2, .int x2), (3, .int x3)] → W p l e rm_X3_rulesOf s m args below meth c H locs 0 0 (MQ below (g_QI D (g_tys cI cM) A (ww_X3_rulesOf cI cM a_this a_this_low a_this_high a_this_kind a_this_x a_this_y a_this_z v_unknowns v_rules v_x v_y v_kind v_z) r) args s 0 0 A) (F0 m 4 ls []) := by
  intro n
  induction n with
  | zero =>
    intro x1 x2 x3 H locs ls hf
    exact absurd hf (fun h => nomatch h)
  | succ n ih =>
    intro x1 x2 x3 H locs ls hf
    exact w_X3_rulesOf_C4 C0 hA hK _ ih x1 x2 x3 H locs ls hf
def f_X3_rulesOf (N : Nat) (v_rules : Int32) (v_x : Nat → Int32) (v_y : Nat → Int32) (v_kind : Nat → Int32) (v_z : Nat → Int32) (x1 : Int32) : Option (Int32) :=
  f_X3_rulesOf_L4 N v_rules v_x v_y v_kind v_z N x1 0 0
set_option maxHeartbeats 4000000 in
set_option maxRecDepth 100000 in
theorem w_X3_rulesOf_B0 {p : Program} {l : Launch} {e : Env} {s : State} {m : MethodId} {args : Array Value} {below : List Frame} {meth : Method} {c : Code} {D : va_G} {cI cM : ClassId} {A : Nat → Prop} {a_this a_this_low a_this_high a_this_kind a_this_x a_this_y a_this_z : Nat} {v_unknowns : Int32} {N : Nat} {v_rules : Int32} {v_x : Nat → Int32} {v_y : Nat → Int32} {v_kind : Nat → Int32} {v_z : Nat → Int32} {r : Int32} (C0 : g_cx cX3_rulesOf (some .int) 4 RX3 wsX3_rulesOf p s m args meth c) (hA : ∀ q, s.heap.size ≤ q → A q) (hK : va_K D vwCl (g_tys cI cM) s) : ∀ (x1 : Int32) (H : Heap) (locs : List Loc) (ls : Array Slot), f_X3_rulesOf N v_rules v_x v_y v_kind v_z x1 = some r → va_P D vwCl (ww_X3_rulesOf cI cM a_this a_this_low a_this_high a_this_kind a_this_x a_this_y a_this_z v_unknowns v_rules v_x v_y v_kind v_z) H → va_D A (ww_X3_rulesOf cI cM a_this a_this_low a_this_high a_this_kind a_this_x a_this_y a_this_z v_unknowns v_rules v_x v_y v_kind v_z) → va_S A s.heap H locs → lv_has ls 4 [(0, .ref a_this), (1, .int x1)] → W p l e rm_X3_rulesOf s m args below meth c H locs 0 0 (MQ below (g_QI D (g_tys cI cM) A (ww_X3_rulesOf cI cM a_this a_this_low a_this_high a_this_kind a_this_x a_this_y a_this_z v_unknowns v_rules v_x v_y v_kind v_z) r) args s 0 0 A) (F0 m 0 ls []) := by
  obtain ⟨hx, hb, hr, hml, hown, hts, hlocks⟩ := id C0
  intro x1 H locs ls hf hP hD hS hl
  unfold f_X3_rulesOf at hf
  refine lv_iconst (v := 0) hx hb dX3_rulesOf_0 (by decide) ?_
  refine lv_istore_n (lv' := [(2, .int 0), (0, .ref a_this), (1, .int x1)]) hx hb dX3_rulesOf_1 rfl hl (by decide) rfl (fun ls hl => ?_)
  refine lv_iconst (v := 0) hx hb dX3_rulesOf_2 (by decide) ?_
  refine lv_istore_n (lv' := [(3, .int 0), (2, .int 0), (0, .ref a_this), (1, .int x1)]) hx hb dX3_rulesOf_3 rfl hl (by decide) rfl (fun ls hl => ?_)
  exact w_X3_rulesOf_L4 C0 hA hK N x1 0 0 H locs ls hf hP hD hS (lv_sub hl [2, 3, 1, 0] rfl)
set_option maxHeartbeats 4000000 in
set_option maxRecDepth 100000 in
theorem c_X3_rulesOf (l : Launch) (D : va_G) (cI cM : ClassId) (a_this a_this_low a_this_high a_this_kind a_this_x a_this_y a_this_z : Nat) (sz : Nat) (v_unknowns : Int32) (v_rules : Int32) (v_x : Nat → Int32) (v_y : Nat → Int32) (v_kind : Nat → Int32) (v_z : Nat → Int32) {N : Nat} {x1 : Int32} {r : Int32} (hf : f_X3_rulesOf N v_rules v_x v_y v_kind v_z x1 = some r) : Met l yX3_rulesOf wsX3_rulesOf rm_X3_rulesOf (g_Pc D (g_tys cI cM) (ww_X3_rulesOf cI cM a_this a_this_low a_this_high a_this_kind a_this_x a_this_y a_this_z v_unknowns v_rules v_x v_y v_kind v_z) sz [.ref a_this, .int x1]) (g_QI D (g_tys cI cM) (va_A (ww_X3_rulesOf cI cM a_this a_this_low a_this_high a_this_kind a_this_x a_this_y a_this_z v_unknowns v_rules v_x v_y v_kind v_z) sz) (ww_X3_rulesOf cI cM a_this a_this_low a_this_high a_this_kind a_this_x a_this_y a_this_z v_unknowns v_rules v_x v_y v_kind v_z) r) 0 0 (va_A (ww_X3_rulesOf cI cM a_this a_this_low a_this_high a_this_kind a_this_x a_this_y a_this_z v_unknowns v_rules v_x v_y v_kind v_z) sz) := by
  refine g_met (cc := cX3_rulesOf) (maxL := 4) (ret := (some .int)) (Qc := fun D A => g_QI D (g_tys cI cM) A (ww_X3_rulesOf cI cM a_this a_this_low a_this_high a_this_kind a_this_x a_this_y a_this_z v_unknowns v_rules v_x v_y v_kind v_z) r) (by decide) rfl ?_
  intro p e s m below meth c A C0 hA hK hP hD
  have hl := lv_entry ([.ref a_this, .int x1]) (n := 4) (Nat.le_of_ble_eq_true rfl)
  rw [lg_entry_eq]
  generalize (lg_sl ([.ref a_this, .int x1]) ++ List.replicate (4 - (lg_sl ([.ref a_this, .int x1])).length) Slot.unset).toArray = ls at hl ⊢
  have hl : lv_has ls 4 [(0, .ref a_this), (1, .int x1)] := hl
  exact w_X3_rulesOf_B0 C0 hA hK x1 s.heap [] ls hf hP hD va_S.rf (lv_sub hl [0, 1] rfl)
/-! FloatBoxes$Model.allRulesHold([I)Z -/
abbrev rm_X3_allRulesHold : Room := { frames := 5, cells := 0, slots := 0, locals := 129 }
abbrev ww_X3_allRulesHold (cI cM : ClassId) (n_p1 : Nat) (a_this a_this_low a_this_high a_this_kind a_this_x a_this_y a_this_z a_p1 : Nat) (v_unknowns : Int32) (v_rules : Int32) (v_kind : Nat → Int32) (v_x : Nat → Int32) (v_p1 : Nat → Int32) (v_y : Nat → Int32) (v_z : Nat → Int32) : va_W := [(a_this, .inr (2, [.int v_unknowns, .int v_rules, .ref a_this_low, .ref a_this_high, .ref a_this_kind, .ref a_this_x, .ref a_this_y, .ref a_this_z])), (a_this_kind, .inl (cI, 6, .inl v_kind)), (a_this_x, .inl (cI, 6, .inl v_x)), (a_p1, .inl (cI, n_p1, .inl v_p1)), (a_this_y, .inl (cI, 6, .inl v_y)), (a_this_z, .inl (cI, 6, .inl v_z))]
def f_X3_allRulesHold_C2 (N : Nat) (n_p1 : Nat) (v_rules : Int32) (v_kind : Nat → Int32) (v_x : Nat → Int32) (v_p1 : Nat → Int32) (v_y : Nat → Int32) (v_z : Nat → Int32) (k2 : Int32 → Option (Int32)) (x2 : Int32) : Option (Int32) :=
  if v_rules ≤ x2 then
    some 1
  else
    o_in x2 6 (
    o_in x2 6 (
    o_in (v_x x2.toNatClampNeg) n_p1 (
    o_in x2 6 (
    o_in (v_y x2.toNatClampNeg) n_p1 (
    o_in x2 6 (
    o_in (v_z x2.toNatClampNeg) n_p1 (
    o_b1 (f_X4_ruleHolds (v_kind x2.toNatClampNeg) (v_p1 (v_x x2.toNatClampNeg).toNatClampNeg) (v_p1 (v_y x2.toNatClampNeg).toNatClampNeg) (v_p1 (v_z x2.toNatClampNeg).toNatClampNeg)) (fun (r40 : Int32) =>
    if r40 = 0 then
      some 0
    else
      k2 (x2 + 1)))))))))
def f_X3_allRulesHold_L2 (N : Nat) (n_p1 : Nat) (v_rules : Int32) (v_kind : Nat → Int32) (v_x : Nat → Int32) (v_p1 : Nat → Int32) (v_y : Nat → Int32) (v_z : Nat → Int32) : Nat → Int32 → Option (Int32)
  | 0 => fun _ => none
  | n + 1 => f_X3_allRulesHold_C2 N n_p1 v_rules v_kind v_x v_p1 v_y v_z (f_X3_allRulesHold_L2 N n_p1 v_rules v_kind v_x v_p1 v_y v_z n)
set_option maxHeartbeats 4000000 in
set_option maxRecDepth 100000 in
theorem w_X3_allRulesHold_C2 {p : Program} {l : Launch} {e : Env} {s : State} {m : MethodId} {args : Array Value} {below : List Frame} {meth : Method} {c : Code} {D : va_G} {cI cM : ClassId} {A : Nat → Prop} {n_p1 : Nat} {a_this a_this_low a_this_high a_this_kind a_this_x a_this_y a_this_z a_p1 : Nat} {v_unknowns : Int32} {N : Nat} {v_rules : Int32} {v_kind : Nat → Int32} {v_x : Nat → Int32} {v_p1 : Nat → Int32} {v_y : Nat → Int32} {v_z : Nat → Int32} {r : Int32} (C0 : g_cx cX3_allRulesHold (some .boolean) 3 RX3 wsX3_allRulesHold p s m args meth c) (hA : ∀ q, s.heap.size ≤ q → A q) (hK : va_K D vwCl (g_tys cI cM) s) (k2 : Int32 → Option (Int32)) (hk2 : ∀ (x2 : Int32) (H : Heap) (locs : List Loc) (ls : Array Slot), k2 x2 = some r → va_P D vwCl (ww_X3_allRulesHold cI cM n_p1 a_this a_this_low a_this_high a_this_kind a_this_x a_this_y a_this_z a_p1 v_unknowns v_rules v_kind v_x v_p1 v_y v_z) H → va_D A (ww_X3_allRulesHold cI cM n_p1 a_this a_this_low a_this_high a_this_kind a_this_x a_this_y a_this_z a_p1 v_unknowns v_rules v_kind v_x v_p1 v_y v_z) → va_S A s.heap H locs → lv_has ls 3 [(0, .ref a_this), (1, .ref a_p1), (2, .int x2)] → W p l e rm_X3_allRulesHold s m args below meth c H locs 0 0 (MQ below (g_QI D (g_tys cI cM) A (ww_X3_allRulesHold cI cM n_p1 a_this a_this_low a_this_high a_this_kind a_this_x a_this_y a_this_z a_p1 v_unknowns v_rules v_kind v_x v_p1 v_y v_z) r) args s 0 0 A) (F0 m 2 ls [])) : ∀ (x2 : Int32) (H : Heap) (locs : List Loc) (ls : Array Slot), f_X3_allRulesHold_C2 N n_p1 v_rules v_kind v_x v_p1 v_y v_z k2 x2 = some r → va_P D vwCl (ww_X3_allRulesHold cI cM n_p1 a_this a_this_low a_this_high a_this_kind a_this_x a_this_y a_this_z a_p1 v_unknowns v_rules v_kind v_x v_p1 v_y v_z) H → va_D A (ww_X3_allRulesHold cI cM n_p1 a_this a_this_low a_this_high a_this_kind a_this_x a_this_y a_this_z a_p1 v_unknowns v_rules v_kind v_x v_p1 v_y v_z) → va_S A s.heap H locs → lv_has ls 3 [(0, .ref a_this), (1, .ref a_p1), (2, .int x2)] → W p l e rm_X3_allRulesHold s m args below meth c H locs 0 0 (MQ below (g_QI D (g_tys cI cM) A (ww_X3_allRulesHold cI cM n_p1 a_this a_this_low a_this_high a_this_kind a_this_x a_this_y a_this_z a_p1 v_unknowns v_rules v_kind v_x v_p1 v_y v_z) r) args s 0 0 A) (F0 m 2 ls []) := by
  obtain ⟨hx, hb, hr, hml, hown, hts, hlocks⟩ := id C0
  intro x2 H locs ls hf hP hD hS hl
  unfold f_X3_allRulesHold_C2 at hf
  refine lv_iload_n hx hb dX3_allRulesHold_2 rfl (lv_at hl 2 rfl) ?_
  refine lv_aload_n hx hb dX3_allRulesHold_3 rfl (lv_at hl 0 rfl) ?_
  refine va_get (D := D) (ci := 2) (v := .int v_rules) (C := RX3) (T := TX3) (N := 8) hx hb hts (fun _ h => (List.mem_cons_of_mem _ (List.mem_append_right _ h))) hown hK hP 0 rfl rfl 1 (by decide) (hts (.fieldLink RX3 34 "FloatBoxes$Model" "rules" "I") (List.mem_cons_of_mem _ (List.mem_append_left _ (List.mem_append_left _ (List.mem_of_getElem? (i := 0) rfl))))) (fun _ h9 => h9) rfl dX3_allRulesHold_4 ?_
  refine lv_icmp_ge (tgt := 54) hx hb dX3_allRulesHold_7 (by decide) (fun c7 => ?_) (fun c7 => ?_)
  · replace hf := o_t c7 hf
    refine lv_iconst (v := 1) hx hb dX3_allRulesHold_54 (by decide) ?_
    have q0 := Option.some.inj hf
    subst q0
    exact g_zret hx hb hr hlocks (by decide) hP hD hK hS dX3_allRulesHold_55
  · replace hf := o_f c7 hf
    refine lv_aload_n hx hb dX3_allRulesHold_10 rfl (lv_at hl 0 rfl) ?_
    refine va_get (D := D) (ci := 2) (v := .ref a_this_kind) (C := RX3) (T := TX3) (N := 8) hx hb hts (fun _ h => (List.mem_cons_of_mem _ (List.mem_append_right _ h))) hown hK hP 0 rfl rfl 4 (by decide) (hts (.fieldLink RX3 18 "FloatBoxes$Model" "kind" "[I") (List.mem_cons_of_mem _ (List.mem_append_left _ (List.mem_append_left _ (List.mem_of_getElem? (i := 1) rfl))))) (fun _ h9 => h9) rfl dX3_allRulesHold_11 ?_
    refine lv_iload_n hx hb dX3_allRulesHold_14 rfl (lv_at hl 2 rfl) ?_
    obtain ⟨h15, hf⟩ := o_in_go hf
    refine va_iald hx hb hK hP 1 0 rfl rfl h15 dX3_allRulesHold_15 ?_
    refine lv_aload_n hx hb dX3_allRulesHold_16 rfl (lv_at hl 1 rfl) ?_
    refine lv_aload_n hx hb dX3_allRulesHold_17 rfl (lv_at hl 0 rfl) ?_
    refine va_get (D := D) (ci := 2) (v := .ref a_this_x) (C := RX3) (T := TX3) (N := 8) hx hb hts (fun _ h => (List.mem_cons_of_mem _ (List.mem_append_right _ h))) hown hK hP 0 rfl rfl 5 (by decide) (hts (.fieldLink RX3 21 "FloatBoxes$Model" "x" "[I") (List.mem_cons_of_mem _ (List.mem_append_left _ (List.mem_append_left _ (List.mem_of_getElem? (i := 2) rfl))))) (fun _ h9 => h9) rfl dX3_allRulesHold_18 ?_
    refine lv_iload_n hx hb dX3_allRulesHold_21 rfl (lv_at hl 2 rfl) ?_
    obtain ⟨h22, hf⟩ := o_in_go hf
    refine va_iald hx hb hK hP 2 0 rfl rfl h22 dX3_allRulesHold_22 ?_
    obtain ⟨h23, hf⟩ := o_in_go hf
    refine va_iald hx hb hK hP 3 0 rfl rfl h23 dX3_allRulesHold_23 ?_
    refine lv_aload_n hx hb dX3_allRulesHold_24 rfl (lv_at hl 1 rfl) ?_
    refine lv_aload_n hx hb dX3_allRulesHold_25 rfl (lv_at hl 0 rfl) ?_
    refine va_get (D := D) (ci := 2) (v := .ref a_this_y) (C := RX3) (T := TX3) (N := 8) hx hb hts (fun _ h => (List.mem_cons_of_mem _ (List.mem_append_right _ h))) hown hK hP 0 rfl rfl 6 (by decide) (hts (.fieldLink RX3 24 "FloatBoxes$Model" "y" "[I") (List.mem_cons_of_mem _ (List.mem_append_left _ (List.mem_append_left _ (List.mem_of_getElem? (i := 3) rfl))))) (fun _ h9 => h9) rfl dX3_allRulesHold_26 ?_
    refine lv_iload_n hx hb dX3_allRulesHold_29 rfl (lv_at hl 2 rfl) ?_
    obtain ⟨h30, hf⟩ := o_in_go hf
    refine va_iald hx hb hK hP 4 0 rfl rfl h30 dX3_allRulesHold_30 ?_
    obtain ⟨h31, hf⟩ := o_in_go hf
    refine va_iald hx hb hK hP 3 0 rfl rfl h31 dX3_allRulesHold_31 ?_
    refine lv_aload_n hx hb dX3_allRulesHold_32 rfl (lv_at hl 1 rfl) ?_
    refine lv_aload_n hx hb dX3_allRulesHold_33 rfl (lv_at hl 0 rfl) ?_
    refine va_get (D := D) (ci := 2) (v := .ref a_this_z) (C := RX3) (T := TX3) (N := 8) hx hb hts (fun _ h => (List.mem_cons_of_mem _ (List.mem_append_right _ h))) hown hK hP 0 rfl rfl 7 (by decide) (hts (.fieldLink RX3 27 "FloatBoxes$Model" "z" "[I") (List.mem_cons_of_mem _ (List.mem_append_left _ (List.mem_append_left _ (List.mem_of_getElem? (i := 4) rfl))))) (fun _ h9 => h9) rfl dX3_allRulesHold_34 ?_
    refine lv_iload_n hx hb dX3_allRulesHold_37 rfl (lv_at hl 2 rfl) ?_
    obtain ⟨h38, hf⟩ := o_in_go hf
    refine va_iald hx hb hK hP 5 0 rfl rfl h38 dX3_allRulesHold_38 ?_
    obtain ⟨h39, hf⟩ := o_in_go hf
    refine va_iald hx hb hK hP 3 0 rfl rfl h39 dX3_allRulesHold_39 ?_
    obtain ⟨r40, hg40, hf⟩ := o_b1_go hf
    refine g_callSi (rest := []) ⟨hx, hb, hml, hown, hts⟩ (c_X4_ruleHolds l hg40) (va_cwS 4 hts gX3_allRulesHold_X4_ruleHolds rfl rfl rfl (by decide +kernel) ⟨Nat.le_of_ble_eq_true rfl, Nat.le_of_ble_eq_true rfl⟩) rfl hl.1 rfl (Nat.le_of_ble_eq_true rfl) dX3_allRulesHold_40 ?_
    refine lv_if_ne (tgt := 48) hx hb dX3_allRulesHold_43 (by decide) (fun c43 => ?_) (fun c43 => ?_)
    · replace hf := o_f c43 hf
      refine lv_iinc (v := x2 + 1) (lv' := [(2, .int (x2 + 1)), (0, .ref a_this), (1, .ref a_p1)]) hx hb dX3_allRulesHold_48 hl (k := 2) rfl rfl (by decide) rfl (fun ls hl => ?_)
      refine lv_goto (tgt := 2) hx hb dX3_allRulesHold_51 (by decide) ?_
      exact hk2 (x2 + 1) H locs ls hf hP hD hS (lv_sub hl [1, 2, 0] rfl)
    · replace hf := o_t c43 hf
      refine lv_iconst (v := 0) hx hb dX3_allRulesHold_46 (by decide) ?_
      have q0 := Option.some.inj hf
      subst q0
      exact g_zret hx hb hr hlocks (by decide) hP hD hK hS dX3_allRulesHold_47
set_option maxHeartbeats 4000000 in
set_option maxRecDepth 100000 in
theorem w_X3_allRulesHold_L2 {p : Program} {l : Launch} {e : Env} {s : State} {m : MethodId} {args : Array Value} {below : List Frame} {meth : Method} {c : Code} {D : va_G} {cI cM : ClassId} {A : Nat → Prop} {n_p1 : Nat} {a_this a_this_low a_this_high a_this_kind a_this_x a_this_y a_this_z a_p1 : Nat} {v_unknowns : Int32} {N : Nat} {v_rules : Int32} {v_kind : Nat → Int32} {v_x : Nat → Int32} {v_p1 : Nat → Int32} {v_y : Nat → Int32} {v_z : Nat → Int32} {r : Int32} (C0 : g_cx cX3_allRulesHold (some .boolean) 3 RX3 wsX3_allRulesHold p s m args meth c) (hA : ∀ q, s.heap.size ≤ q → A q) (hK : va_K D vwCl (g_tys cI cM) s) : ∀ n : Nat, ∀ (x2 : Int32) (H : Heap) (locs : List Loc) (ls : Array Slot), f_X3_allRulesHold_L2 N n_p1 v_rules v_kind v_x v_p1 v_y v_z n x2 = some r → va_P D vwCl (ww_X3_allRulesHold cI cM n_p1 a_this a_this_low a_this_high a_this_kind a_this_x a_this_y a_this_z a_p1 v_unknowns v_rules v_kind v_x v_p1 v_y v_z) H → va_D A (ww_X3_allRulesHold cI cM n_p1 a_this a_this_low a_this_high a_this_kind a_this_x a_this_y a_this_z a_p1 v_unknowns v_rules v_kind v_x v_p1 v_y v_z) → va_S A s.heap H locs → lv_has ls 3 [(0, .ref a_this), (1, .ref a_p1), (2, .int x2)] → W p l e rm_X3_allRulesHold s m args below meth c H locs 0 0 (MQ below (g_QI D (g_tys cI cM) A (ww_X3_allRulesHold cI cM n_p1 a_this a_this_low a_this_high a_this_kind a_this_x a_this_y a_this_z a_p1 v_unknowns v_rules v_kind v_x v_p1 v_y v_z) r) args s 0 0 A) (F0 m 2 ls []) := by
  intro n
  induction n with
  | zero =>
    intro x2 H locs ls hf
    exact absurd hf (fun h => nomatch h)
  | succ n ih =>
    intro x2 H locs ls hf
    exact w_X3_allRulesHold_C2 C0 hA hK _ ih x2 H locs ls hf
def f_X3_allRulesHold (N : Nat) (n_p1 : Nat) (v_rules : Int32) (v_kind : Nat → Int32) (v_x : Nat → Int32) (v_p1 : Nat → Int32) (v_y : Nat → Int32) (v_z : Nat → Int32) : Option (Int32) :=
  f_X3_allRulesHold_L2 N n_p1 v_rules v_kind v_x v_p1 v_y v_z N 0
set_option maxHeartbeats 4000000 in
set_option maxRecDepth 100000 in
theorem w_X3_allRulesHold_B0 {p : Program} {l : Launch} {e : Env} {s : State} {m : MethodId} {args : Array Value} {below : List Frame} {meth : Method} {c : Code} {D : va_G} {cI cM : ClassId} {A : Nat → Prop} {n_p1 : Nat} {a_this a_this_low a_this_high a_this_kind a_this_x a_this_y a_this_z a_p1 : Nat} {v_unknowns : Int32} {N : Nat} {v_rules : Int32} {v_kind : Nat → Int32} {v_x : Nat → Int32} {v_p1 : Nat → Int32} {v_y : Nat → Int32} {v_z : Nat → Int32} {r : Int32} (C0 : g_cx cX3_allRulesHold (some .boolean) 3 RX3 wsX3_allRulesHold p s m args meth c) (hA : ∀ q, s.heap.size ≤ q → A q) (hK : va_K D vwCl (g_tys cI cM) s) : ∀ (H : Heap) (locs : List Loc) (ls : Array Slot), f_X3_allRulesHold N n_p1 v_rules v_kind v_x v_p1 v_y v_z = some r → va_P D vwCl (ww_X3_allRulesHold cI cM n_p1 a_this a_this_low a_this_high a_this_kind a_this_x a_this_y a_this_z a_p1 v_unknowns v_rules v_kind v_x v_p1 v_y v_z) H → va_D A (ww_X3_allRulesHold cI cM n_p1 a_this a_this_low a_this_high a_this_kind a_this_x a_this_y a_this_z a_p1 v_unknowns v_rules v_kind v_x v_p1 v_y v_z) → va_S A s.heap H locs → lv_has ls 3 [(0, .ref a_this), (1, .ref a_p1)] → W p l e rm_X3_allRulesHold s m args below meth c H locs 0 0 (MQ below (g_QI D (g_tys cI cM) A (ww_X3_allRulesHold cI cM n_p1 a_this a_this_low a_this_high a_this_kind a_this_x a_this_y a_this_z a_p1 v_unknowns v_rules v_kind v_x v_p1 v_y v_z) r) args s 0 0 A) (F0 m 0 ls []) := by
  obtain ⟨hx, hb, hr, hml, hown, hts, hlocks⟩ := id C0
  intro H locs ls hf hP hD hS hl
  unfold f_X3_allRulesHold at hf
  refine lv_iconst (v := 0) hx hb dX3_allRulesHold_0 (by decide) ?_
  refine lv_istore_n (lv' := [(2, .int 0), (0, .ref a_this), (1, .ref a_p1)]) hx hb dX3_allRulesHold_1 rfl hl (by decide) rfl (fun ls hl => ?_)
  exact w_X3_allRulesHold_L2 C0 hA hK N 0 H locs ls hf hP hD hS (lv_sub hl [1, 2, 0] rfl)
set_option maxHeartbeats 4000000 in
set_option maxRecDepth 100000 in
theorem c_X3_allRulesHold (l : Launch) (D : va_G) (cI cM : ClassId) (n_p1 : Nat) (a_this a_this_low a_this_high a_this_kind a_this_x a_this_y a_this_z a_p1 : Nat) (sz : Nat) (v_unknowns : Int32) (v_rules : Int32) (v_kind : Nat → Int32) (v_x : Nat → Int32) (v_p1 : Nat → Int32) (v_y : Nat → Int32) (v_z : Nat → Int32) {N : Nat} {r : Int32} (hf : f_X3_allRulesHold N n_p1 v_rules v_kind v_x v_p1 v_y v_z = some r) : Met l yX3_allRulesHold wsX3_allRulesHold rm_X3_allRulesHold (g_Pc D (g_tys cI cM) (ww_X3_allRulesHold cI cM n_p1 a_this a_this_low a_this_high a_this_kind a_this_x a_this_y a_this_z a_p1 v_unknowns v_rules v_kind v_x v_p1 v_y v_z) sz [.ref a_this, .ref a_p1]) (g_QI D (g_tys cI cM) (va_A (ww_X3_allRulesHold cI cM n_p1 a_this a_this_low a_this_high a_this_kind a_this_x a_this_y a_this_z a_p1 v_unknowns v_rules v_kind v_x v_p1 v_y v_z) sz) (ww_X3_allRulesHold cI cM n_p1 a_this a_this_low a_this_high a_this_kind a_this_x a_this_y a_this_z a_p1 v_unknowns v_rules v_kind v_x v_p1 v_y v_z) r) 0 0 (va_A (ww_X3_allRulesHold cI cM n_p1 a_this a_this_low a_this_high a_this_kind a_this_x a_this_y a_this_z a_p1 v_unknowns v_rules v_kind v_x v_p1 v_y v_z) sz) := by
  refine g_met (cc := cX3_allRulesHold) (maxL := 3) (ret := (some .boolean)) (Qc := fun D A => g_QI D (g_tys cI cM) A (ww_X3_allRulesHold cI cM n_p1 a_this a_this_low a_this_high a_this_kind a_this_x a_this_y a_this_z a_p1 v_unknowns v_rules v_kind v_x v_p1 v_y v_z) r) (by decide) rfl ?_
  intro p e s m below meth c A C0 hA hK hP hD
  have hl := lv_entry ([.ref a_this, .ref a_p1]) (n := 3) (Nat.le_of_ble_eq_true rfl)
  rw [lg_entry_eq]
  generalize (lg_sl ([.ref a_this, .ref a_p1]) ++ List.replicate (3 - (lg_sl ([.ref a_this, .ref a_p1])).length) Slot.unset).toArray = ls at hl ⊢
  have hl : lv_has ls 3 [(0, .ref a_this), (1, .ref a_p1)] := hl
  exact w_X3_allRulesHold_B0 C0 hA hK s.heap [] ls hf hP hD va_S.rf (lv_sub hl [0, 1] rfl)
