/-! FloatBoxesModel.canUnknown(II)I -/
abbrev rm_X8_canUnknown : Room := { frames := 2, cells := 0, slots := 0, locals := 45 }
abbrev ww_X8_canUnknown (cI cM : ClassId) (a_this a_this_all a_this_past a_this_refused a_this_box a_this_row a_this_text a_this_numbers a_this_before : Nat) (v_states : Int32) (v_empty : Int32) (v_cut : Int32) (v_rowMany : Int32) (v_taken : Int32) (v_found : Int32) (v_textLong : Int32) (v_at : Int32) (v_stopped : Int32) (v_all : Nat → Int32) : va_W := [(a_this, .inr (6, [.ref a_this_all, .ref a_this_past, .int v_states, .ref a_this_refused, .ref a_this_box, .int v_empty, .int v_cut, .ref a_this_row, .int v_rowMany, .int v_taken, .int v_found, .ref a_this_text, .int v_textLong, .int v_at, .ref a_this_numbers, .int v_stopped, .ref a_this_before])), (a_this_all, .inl (cI, 38, .inl v_all))]
def f_X8_canUnknown (v_all : Nat → Int32) (x1 : Int32) (x2 : Int32) : Option (Int32) :=
  o_b1 (f_X8_isPlace x1) (fun (r1 : Int32) =>
  if r1 = 0 then
    some ((-2139095050))
  else
    o_b1 (f_X8_isPlace x2) (fun (r8 : Int32) =>
    if r8 = 0 then
      some ((-2139095050))
    else
      if x1 ≤ x2 then
        o_b1 (f_X8_unknowns v_all) (fun (r25 : Int32) =>
        if r25 = 6 then
          some ((-2139095052))
        else
          some 0)
      else
        some ((-2139095050))))
set_option maxHeartbeats 4000000 in
set_option maxRecDepth 100000 in
theorem w_X8_canUnknown_B0 {p : Program} {l : Launch} {e : Env} {s : State} {m : MethodId} {args : Array Value} {below : List Frame} {meth : Method} {c : Code} {D : va_G} {cI cM : ClassId} {A : Nat → Prop} {a_this a_this_all a_this_past a_this_refused a_this_box a_this_row a_this_text a_this_numbers a_this_before : Nat} {v_states : Int32} {v_empty : Int32} {v_cut : Int32} {v_rowMany : Int32} {v_taken : Int32} {v_found : Int32} {v_textLong : Int32} {v_at : Int32} {v_stopped : Int32} {v_all : Nat → Int32} {r : Int32} (C0 : g_cx cX8_canUnknown (some .int) 3 RX8 wsX8_canUnknown p s m args meth c) (hA : ∀ q, s.heap.size ≤ q → A q) (hK : va_K D vwCl (g_tys cI cM) s) : ∀ (x1 : Int32) (x2 : Int32) (H : Heap) (locs : List Loc) (ls : Array Slot), f_X8_canUnknown v_all x1 x2 = some r → va_P D vwCl (ww_X8_canUnknown cI cM a_this a_this_all a_this_past a_this_refused a_this_box a_this_row a_this_text a_this_numbers a_this_before v_states v_empty v_cut v_rowMany v_taken v_found v_textLong v_at v_stopped v_all) H → va_D A (ww_X8_canUnknown cI cM a_this a_this_all a_this_past a_this_refused a_this_box a_this_row a_this_text a_this_numbers a_this_before v_states v_empty v_cut v_rowMany v_taken v_found v_textLong v_at v_stopped v_all) → va_S A s.heap H locs → lv_has ls 3 [(0, .ref a_this), (1, .int x1), (2, .int x2)] → W p l e rm_X8_canUnknown s m args below meth c H locs 0 0 (MQ below (g_QI D (g_tys cI cM) A (ww_X8_canUnknown cI cM a_this a_this_all a_this_past a_this_refused a_this_box a_this_row a_this_text a_this_numbers a_this_before v_states v_empty v_cut v_rowMany v_taken v_found v_textLong v_at v_stopped v_all) r) args s 0 0 A) (F0 m 0 ls []) := by
  obtain ⟨hx, hb, hr, hml, hown, hts, hlocks⟩ := id C0
  intro x1 x2 H locs ls hf hP hD hS hl
  unfold f_X8_canUnknown at hf
  refine lv_iload_n hx hb dX8_canUnknown_0 rfl (lv_at hl 1 rfl) ?_
  obtain ⟨r1, hg1, hf⟩ := o_b1_go hf
  refine g_callSi (rest := []) ⟨hx, hb, hml, hown, hts⟩ (c_X8_isPlace l hg1) (va_cwS 1 hts gX8_canUnknown_X8_isPlace rfl rfl rfl (by decide +kernel) ⟨Nat.le_of_ble_eq_true rfl, Nat.le_of_ble_eq_true rfl⟩) rfl hl.1 rfl (Nat.le_of_ble_eq_true rfl) dX8_canUnknown_1 ?_
  refine lv_if_eq (tgt := 19) hx hb dX8_canUnknown_4 (by decide) (fun c4 => ?_) (fun c4 => ?_)
  · replace hf := o_t c4 hf
    refine lv_ldc (v := (-2139095050)) hx hb hown (hts (.constant RX8 42 (-2139095050)) (List.mem_cons_of_mem _ (List.mem_append_left _ (List.mem_of_getElem? (i := 0) rfl)))) dX8_canUnknown_19 ?_
    refine lv_goto (tgt := 39) hx hb dX8_canUnknown_21 (by decide) ?_
    have q0 := Option.some.inj hf
    subst q0
    exact g_iret hx hb hr hlocks hP hD hK hS dX8_canUnknown_39
  · replace hf := o_f c4 hf
    refine lv_iload_n hx hb dX8_canUnknown_7 rfl (lv_at hl 2 rfl) ?_
    obtain ⟨r8, hg8, hf⟩ := o_b1_go hf
    refine g_callSi (rest := []) ⟨hx, hb, hml, hown, hts⟩ (c_X8_isPlace l hg8) (va_cwS 1 hts gX8_canUnknown_X8_isPlace rfl rfl rfl (by decide +kernel) ⟨Nat.le_of_ble_eq_true rfl, Nat.le_of_ble_eq_true rfl⟩) rfl hl.1 rfl (Nat.le_of_ble_eq_true rfl) dX8_canUnknown_8 ?_
    refine lv_if_eq (tgt := 19) hx hb dX8_canUnknown_11 (by decide) (fun c11 => ?_) (fun c11 => ?_)
    · replace hf := o_t c11 hf
      refine lv_ldc (v := (-2139095050)) hx hb hown (hts (.constant RX8 42 (-2139095050)) (List.mem_cons_of_mem _ (List.mem_append_left _ (List.mem_of_getElem? (i := 0) rfl)))) dX8_canUnknown_19 ?_
      refine lv_goto (tgt := 39) hx hb dX8_canUnknown_21 (by decide) ?_
      have q0 := Option.some.inj hf
      subst q0
      exact g_iret hx hb hr hlocks hP hD hK hS dX8_canUnknown_39
    · replace hf := o_f c11 hf
      refine lv_iload_n hx hb dX8_canUnknown_14 rfl (lv_at hl 2 rfl) ?_
      refine lv_iload_n hx hb dX8_canUnknown_15 rfl (lv_at hl 1 rfl) ?_
      refine lv_icmp_ge (tgt := 24) hx hb dX8_canUnknown_16 (by decide) (fun c16 => ?_) (fun c16 => ?_)
      · replace hf := o_t c16 hf
        refine lv_aload_n hx hb dX8_canUnknown_24 rfl (lv_at hl 0 rfl) ?_
        obtain ⟨r25, hg25, hf⟩ := o_b1_go hf
        refine g_callVi (wn := (ww_X8_canUnknown cI cM a_this a_this_all a_this_past a_this_refused a_this_box a_this_row a_this_text a_this_numbers a_this_before v_states v_empty v_cut v_rowMany v_taken v_found v_textLong v_at v_stopped v_all)) (rest := []) ⟨hx, hb, hml, hown, hts⟩ (c_X8_unknowns l D cI cM a_this a_this_all a_this_past a_this_refused a_this_box a_this_row a_this_text a_this_numbers a_this_before H.size v_states v_empty v_cut v_rowMany v_taken v_found v_textLong v_at v_stopped v_all hg25) (cwV 0 hts gX8_canUnknown_X8_unknowns rfl rfl rfl (by decide +kernel) ⟨Nat.le_of_ble_eq_true rfl, Nat.le_of_ble_eq_true rfl⟩) hK hP hD hS hA [0, 1] [] [0, 1] rfl rfl rfl rfl rfl rfl (by decide) rfl rfl rfl hl.1 rfl (Nat.le_of_ble_eq_true rfl) dX8_canUnknown_25 (fun H locs hP hD hS => ?_)
        refine lv_bipush (v := 6) hx hb dX8_canUnknown_28 (by decide) ?_
        refine lv_icmp_ne (tgt := 38) hx hb dX8_canUnknown_30 (by decide) (fun c30 => ?_) (fun c30 => ?_)
        · replace hf := o_f c30 hf
          refine lv_iconst (v := 0) hx hb dX8_canUnknown_38 (by decide) ?_
          have q0 := Option.some.inj hf
          subst q0
          exact g_iret hx hb hr hlocks hP hD hK hS dX8_canUnknown_39
        · replace hf := o_t c30 hf
          refine lv_ldc (v := (-2139095052)) hx hb hown (hts (.constant RX8 83 (-2139095052)) (List.mem_cons_of_mem _ (List.mem_append_left _ (List.mem_of_getElem? (i := 1) rfl)))) dX8_canUnknown_33 ?_
          refine lv_goto (tgt := 39) hx hb dX8_canUnknown_35 (by decide) ?_
          have q0 := Option.some.inj hf
          subst q0
          exact g_iret hx hb hr hlocks hP hD hK hS dX8_canUnknown_39
      · replace hf := o_f c16 hf
        refine lv_ldc (v := (-2139095050)) hx hb hown (hts (.constant RX8 42 (-2139095050)) (List.mem_cons_of_mem _ (List.mem_append_left _ (List.mem_of_getElem? (i := 0) rfl)))) dX8_canUnknown_19 ?_
        refine lv_goto (tgt := 39) hx hb dX8_canUnknown_21 (by decide) ?_
        have q0 := Option.some.inj hf
        subst q0
        exact g_iret hx hb hr hlocks hP hD hK hS dX8_canUnknown_39
set_option maxHeartbeats 4000000 in
set_option maxRecDepth 100000 in
theorem c_X8_canUnknown (l : Launch) (D : va_G) (cI cM : ClassId) (a_this a_this_all a_this_past a_this_refused a_this_box a_this_row a_this_text a_this_numbers a_this_before : Nat) (sz : Nat) (v_states : Int32) (v_empty : Int32) (v_cut : Int32) (v_rowMany : Int32) (v_taken : Int32) (v_found : Int32) (v_textLong : Int32) (v_at : Int32) (v_stopped : Int32) (v_all : Nat → Int32) {x1 : Int32} {x2 : Int32} {r : Int32} (hf : f_X8_canUnknown v_all x1 x2 = some r) : Met l yX8_canUnknown wsX8_canUnknown rm_X8_canUnknown (g_Pc D (g_tys cI cM) (ww_X8_canUnknown cI cM a_this a_this_all a_this_past a_this_refused a_this_box a_this_row a_this_text a_this_numbers a_this_before v_states v_empty v_cut v_rowMany v_taken v_found v_textLong v_at v_stopped v_all) sz [.ref a_this, .int x1, .int x2]) (g_QI D (g_tys cI cM) (va_A (ww_X8_canUnknown cI cM a_this a_this_all a_this_past a_this_refused a_this_box a_this_row a_this_text a_this_numbers a_this_before v_states v_empty v_cut v_rowMany v_taken v_found v_textLong v_at v_stopped v_all) sz) (ww_X8_canUnknown cI cM a_this a_this_all a_this_past a_this_refused a_this_box a_this_row a_this_text a_this_numbers a_this_before v_states v_empty v_cut v_rowMany v_taken v_found v_textLong v_at v_stopped v_all) r) 0 0 (va_A (ww_X8_canUnknown cI cM a_this a_this_all a_this_past a_this_refused a_this_box a_this_row a_this_text a_this_numbers a_this_before v_states v_empty v_cut v_rowMany v_taken v_found v_textLong v_at v_stopped v_all) sz) := by
  refine g_met (cc := cX8_canUnknown) (maxL := 3) (ret := (some .int)) (Qc := fun D A => g_QI D (g_tys cI cM) A (ww_X8_canUnknown cI cM a_this a_this_all a_this_past a_this_refused a_this_box a_this_row a_this_text a_this_numbers a_this_before v_states v_empty v_cut v_rowMany v_taken v_found v_textLong v_at v_stopped v_all) r) (by decide) rfl ?_
  intro p e s m below meth c A C0 hA hK hP hD
  have hl := lv_entry ([.ref a_this, .int x1, .int x2]) (n := 3) (Nat.le_of_ble_eq_true rfl)
  rw [lg_entry_eq]
  generalize (lg_sl ([.ref a_this, .int x1, .int x2]) ++ List.replicate (3 - (lg_sl ([.ref a_this, .int x1, .int x2])).length) Slot.unset).toArray = ls at hl ⊢
  have hl : lv_has ls 3 [(0, .ref a_this), (1, .int x1), (2, .int x2)] := hl
  exact w_X8_canUnknown_B0 C0 hA hK x1 x2 s.heap [] ls hf hP hD va_S.rf (lv_sub hl [0, 1, 2] rfl)
/-! FloatBoxesModel.unknownNow(II)I -/
abbrev rm_X8_unknownNow : Room := { frames := 1, cells := 0, slots := 0, locals := 20 }
abbrev ww_X8_unknownNow (cI cM : ClassId) (a_this a_this_all a_this_past a_this_refused a_this_box a_this_row a_this_text a_this_numbers a_this_before : Nat) (v_states : Int32) (v_empty : Int32) (v_cut : Int32) (v_rowMany : Int32) (v_taken : Int32) (v_found : Int32) (v_textLong : Int32) (v_at : Int32) (v_stopped : Int32) (v_all : Nat → Int32) : va_W := [(a_this, .inr (6, [.ref a_this_all, .ref a_this_past, .int v_states, .ref a_this_refused, .ref a_this_box, .int v_empty, .int v_cut, .ref a_this_row, .int v_rowMany, .int v_taken, .int v_found, .ref a_this_text, .int v_textLong, .int v_at, .ref a_this_numbers, .int v_stopped, .ref a_this_before])), (a_this_all, .inl (cI, 38, .inl v_all))]
def f_X8_unknownNow  (v_all : Nat → Int32) (x1 : Int32) (x2 : Int32) : Option (Int32 × (Nat → Int32)) :=
  o_b1 (f_X8_unknowns v_all) (fun (r1 : Int32) =>
  o_in (1 + (2 * r1)) 38 (
  o_in (2 + (2 * r1)) 38 (
  o_in 0 38 (
  o_in 0 38 (
  some (r1, upd (upd (upd v_all (1 + (2 * r1)).toNatClampNeg x1) (2 + (2 * r1)).toNatClampNeg x2) (0 : Int32).toNatClampNeg (((upd (upd v_all (1 + (2 * r1)).toNatClampNeg x1) (2 + (2 * r1)).toNatClampNeg x2) (0 : Int32).toNatClampNeg) + 1)))))))
set_option maxHeartbeats 4000000 in
set_option maxRecDepth 100000 in
theorem w_X8_unknownNow_B0 {p : Program} {l : Launch} {e : Env} {s : State} {m : MethodId} {args : Array Value} {below : List Frame} {meth : Method} {c : Code} {D : va_G} {cI cM : ClassId} {A : Nat → Prop} {a_this a_this_all a_this_past a_this_refused a_this_box a_this_row a_this_text a_this_numbers a_this_before : Nat} {v_states : Int32} {v_empty : Int32} {v_cut : Int32} {v_rowMany : Int32} {v_taken : Int32} {v_found : Int32} {v_textLong : Int32} {v_at : Int32} {v_stopped : Int32} {r : Int32} {o_all : Nat → Int32} (C0 : g_cx cX8_unknownNow (some .int) 4 RX8 wsX8_unknownNow p s m args meth c) (hA : ∀ q, s.heap.size ≤ q → A q) (hK : va_K D vwCl (g_tys cI cM) s) : ∀ (v_all : Nat → Int32) (x1 : Int32) (x2 : Int32) (H : Heap) (locs : List Loc) (ls : Array Slot), f_X8_unknownNow v_all x1 x2 = some (r, o_all) → va_P D vwCl (ww_X8_unknownNow cI cM a_this a_this_all a_this_past a_this_refused a_this_box a_this_row a_this_text a_this_numbers a_this_before v_states v_empty v_cut v_rowMany v_taken v_found v_textLong v_at v_stopped v_all) H → va_D A (ww_X8_unknownNow cI cM a_this a_this_all a_this_past a_this_refused a_this_box a_this_row a_this_text a_this_numbers a_this_before v_states v_empty v_cut v_rowMany v_taken v_found v_textLong v_at v_stopped v_all) → va_S A s.heap H locs → lv_has ls 4 [(0, .ref a_this), (1, .int x1), (2, .int x2)] → W p l e rm_X8_unknownNow s m args below meth c H locs 0 0 (MQ below (g_QI D (g_tys cI cM) A (ww_X8_unknownNow cI cM a_this a_this_all a_this_past a_this_refused a_this_box a_this_row a_this_text a_this_numbers a_this_before v_states v_empty v_cut v_rowMany v_taken v_found v_textLong v_at v_stopped o_all) r) args s 0 0 A) (F0 m 0 ls []) := by
  obtain ⟨hx, hb, hr, hml, hown, hts, hlocks⟩ := id C0
  intro v_all x1 x2 H locs ls hf hP hD hS hl
  unfold f_X8_unknownNow at hf
  refine lv_aload_n hx hb dX8_unknownNow_0 rfl (lv_at hl 0 rfl) ?_
  obtain ⟨r1, hg1, hf⟩ := o_b1_go hf
  refine g_callVi (wn := (ww_X8_unknownNow cI cM a_this a_this_all a_this_past a_this_refused a_this_box a_this_row a_this_text a_this_numbers a_this_before v_states v_empty v_cut v_rowMany v_taken v_found v_textLong v_at v_stopped v_all)) (rest := []) ⟨hx, hb, hml, hown, hts⟩ (c_X8_unknowns l D cI cM a_this a_this_all a_this_past a_this_refused a_this_box a_this_row a_this_text a_this_numbers a_this_before H.size v_states v_empty v_cut v_rowMany v_taken v_found v_textLong v_at v_stopped v_all hg1) (cwV 0 hts gX8_unknownNow_X8_unknowns rfl rfl rfl (by decide +kernel) ⟨Nat.le_of_ble_eq_true rfl, Nat.le_of_ble_eq_true rfl⟩) hK hP hD hS hA [0, 1] [] [0, 1] rfl rfl rfl rfl rfl rfl (by decide) rfl rfl rfl hl.1 rfl (Nat.le_of_ble_eq_true rfl) dX8_unknownNow_1 (fun H locs hP hD hS => ?_)
  refine lv_istore_n (lv' := [(3, .int r1), (0, .ref a_this), (1, .int x1), (2, .int x2)]) hx hb dX8_unknownNow_4 rfl hl (by decide) rfl (fun ls hl => ?_)
  refine lv_aload_n hx hb dX8_unknownNow_5 rfl (lv_at hl 1 rfl) ?_
  refine va_get (D := D) (ci := 6) (v := .ref a_this_all) (C := RX8) (T := TX8) (N := 17) hx hb hts (fun _ h => (List.mem_cons_of_mem _ (List.mem_append_right _ h))) hown hK hP 0 rfl rfl 0 (by decide) (hts (.fieldLink RX8 7 "FloatBoxesModel" "all" "[I") (List.mem_cons_of_mem _ (List.mem_append_left _ (List.mem_of_getElem? (i := 0) rfl)))) (fun _ h9 => h9) rfl dX8_unknownNow_6 ?_
  refine lv_iconst (v := 1) hx hb dX8_unknownNow_9 (by decide) ?_
  refine lv_iconst (v := 2) hx hb dX8_unknownNow_10 (by decide) ?_
  refine lv_iload_n hx hb dX8_unknownNow_11 rfl (lv_at hl 0 rfl) ?_
  refine lv_imul hx hb dX8_unknownNow_12 ?_
  refine lv_iadd hx hb dX8_unknownNow_13 ?_
  refine lv_iload_n hx hb dX8_unknownNow_14 rfl (lv_at hl 2 rfl) ?_
  obtain ⟨h15, hf⟩ := o_in_go hf
  refine va_iast hx hb hK hP hD hS 1 0 rfl rfl h15 dX8_unknownNow_15 (fun H locs hP hD hS => ?_)
  replace hP : va_P D vwCl (ww_X8_unknownNow cI cM a_this a_this_all a_this_past a_this_refused a_this_box a_this_row a_this_text a_this_numbers a_this_before v_states v_empty v_cut v_rowMany v_taken v_found v_textLong v_at v_stopped (upd v_all (1 + (2 * r1)).toNatClampNeg x1)) H := hP
  replace hD : va_D A (ww_X8_unknownNow cI cM a_this a_this_all a_this_past a_this_refused a_this_box a_this_row a_this_text a_this_numbers a_this_before v_states v_empty v_cut v_rowMany v_taken v_found v_textLong v_at v_stopped (upd v_all (1 + (2 * r1)).toNatClampNeg x1)) := hD
  refine lv_aload_n hx hb dX8_unknownNow_16 rfl (lv_at hl 1 rfl) ?_
  refine va_get (D := D) (ci := 6) (v := .ref a_this_all) (C := RX8) (T := TX8) (N := 17) hx hb hts (fun _ h => (List.mem_cons_of_mem _ (List.mem_append_right _ h))) hown hK hP 0 rfl rfl 0 (by decide) (hts (.fieldLink RX8 7 "FloatBoxesModel" "all" "[I") (List.mem_cons_of_mem _ (List.mem_append_left _ (List.mem_of_getElem? (i := 0) rfl)))) (fun _ h9 => h9) rfl dX8_unknownNow_17 ?_
  refine lv_iconst (v := 2) hx hb dX8_unknownNow_20 (by decide) ?_
  refine lv_iconst (v := 2) hx hb dX8_unknownNow_21 (by decide) ?_
  refine lv_iload_n hx hb dX8_unknownNow_22 rfl (lv_at hl 0 rfl) ?_
  refine lv_imul hx hb dX8_unknownNow_23 ?_
  refine lv_iadd hx hb dX8_unknownNow_24 ?_
  refine lv_iload_n hx hb dX8_unknownNow_25 rfl (lv_at hl 3 rfl) ?_
  obtain ⟨h26, hf⟩ := o_in_go hf
  refine va_iast hx hb hK hP hD hS 1 0 rfl rfl h26 dX8_unknownNow_26 (fun H locs hP hD hS => ?_)
  replace hP : va_P D vwCl (ww_X8_unknownNow cI cM a_this a_this_all a_this_past a_this_refused a_this_box a_this_row a_this_text a_this_numbers a_this_before v_states v_empty v_cut v_rowMany v_taken v_found v_textLong v_at v_stopped (upd (upd v_all (1 + (2 * r1)).toNatClampNeg x1) (2 + (2 * r1)).toNatClampNeg x2)) H := hP
  replace hD : va_D A (ww_X8_unknownNow cI cM a_this a_this_all a_this_past a_this_refused a_this_box a_this_row a_this_text a_this_numbers a_this_before v_states v_empty v_cut v_rowMany v_taken v_found v_textLong v_at v_stopped (upd (upd v_all (1 + (2 * r1)).toNatClampNeg x1) (2 + (2 * r1)).toNatClampNeg x2)) := hD
  refine lv_aload_n hx hb dX8_unknownNow_27 rfl (lv_at hl 1 rfl) ?_
  refine va_get (D := D) (ci := 6) (v := .ref a_this_all) (C := RX8) (T := TX8) (N := 17) hx hb hts (fun _ h => (List.mem_cons_of_mem _ (List.mem_append_right _ h))) hown hK hP 0 rfl rfl 0 (by decide) (hts (.fieldLink RX8 7 "FloatBoxesModel" "all" "[I") (List.mem_cons_of_mem _ (List.mem_append_left _ (List.mem_of_getElem? (i := 0) rfl)))) (fun _ h9 => h9) rfl dX8_unknownNow_28 ?_
  refine lv_iconst (v := 0) hx hb dX8_unknownNow_31 (by decide) ?_
  refine lv_dup2_11 hx hb dX8_unknownNow_32 rfl rfl ?_
  obtain ⟨h33, hf⟩ := o_in_go hf
  refine va_iald hx hb hK hP 1 0 rfl rfl h33 dX8_unknownNow_33 ?_
  refine lv_iconst (v := 1) hx hb dX8_unknownNow_34 (by decide) ?_
  refine lv_iadd hx hb dX8_unknownNow_35 ?_
  obtain ⟨h36, hf⟩ := o_in_go hf
  refine va_iast hx hb hK hP hD hS 1 0 rfl rfl h36 dX8_unknownNow_36 (fun H locs hP hD hS => ?_)
  replace hP : va_P D vwCl (ww_X8_unknownNow cI cM a_this a_this_all a_this_past a_this_refused a_this_box a_this_row a_this_text a_this_numbers a_this_before v_states v_empty v_cut v_rowMany v_taken v_found v_textLong v_at v_stopped (upd (upd (upd v_all (1 + (2 * r1)).toNatClampNeg x1) (2 + (2 * r1)).toNatClampNeg x2) (0 : Int32).toNatClampNeg (((upd (upd v_all (1 + (2 * r1)).toNatClampNeg x1) (2 + (2 * r1)).toNatClampNeg x2) (0 : Int32).toNatClampNeg) + 1))) H := hP
  replace hD : va_D A (ww_X8_unknownNow cI cM a_this a_this_all a_this_past a_this_refused a_this_box a_this_row a_this_text a_this_numbers a_this_before v_states v_empty v_cut v_rowMany v_taken v_found v_textLong v_at v_stopped (upd (upd (upd v_all (1 + (2 * r1)).toNatClampNeg x1) (2 + (2 * r1)).toNatClampNeg x2) (0 : Int32).toNatClampNeg (((upd (upd v_all (1 + (2 * r1)).toNatClampNeg x1) (2 + (2 * r1)).toNatClampNeg x2) (0 : Int32).toNatClampNeg) + 1))) := hD
  refine lv_iload_n hx hb dX8_unknownNow_37 rfl (lv_at hl 0 rfl) ?_
  obtain ⟨q0, y0⟩ := o_rp hf
  have q1 := Option.some.inj y0
  subst q0 q1
  exact g_iret hx hb hr hlocks hP hD hK hS dX8_unknownNow_38
set_option maxHeartbeats 4000000 in
set_option maxRecDepth 100000 in
theorem c_X8_unknownNow (l : Launch) (D : va_G) (cI cM : ClassId) (a_this a_this_all a_this_past a_this_refused a_this_box a_this_row a_this_text a_this_numbers a_this_before : Nat) (sz : Nat) (v_states : Int32) (v_empty : Int32) (v_cut : Int32) (v_rowMany : Int32) (v_taken : Int32) (v_found : Int32) (v_textLong : Int32) (v_at : Int32) (v_stopped : Int32) (v_all : Nat → Int32) {x1 : Int32} {x2 : Int32} {r : Int32} {o_all : Nat → Int32} (hf : f_X8_unknownNow v_all x1 x2 = some (r, o_all)) : Met l yX8_unknownNow wsX8_unknownNow rm_X8_unknownNow (g_Pc D (g_tys cI cM) (ww_X8_unknownNow cI cM a_this a_this_all a_this_past a_this_refused a_this_box a_this_row a_this_text a_this_numbers a_this_before v_states v_empty v_cut v_rowMany v_taken v_found v_textLong v_at v_stopped v_all) sz [.ref a_this, .int x1, .int x2]) (g_QI D (g_tys cI cM) (va_A (ww_X8_unknownNow cI cM a_this a_this_all a_this_past a_this_refused a_this_box a_this_row a_this_text a_this_numbers a_this_before v_states v_empty v_cut v_rowMany v_taken v_found v_textLong v_at v_stopped v_all) sz) (ww_X8_unknownNow cI cM a_this a_this_all a_this_past a_this_refused a_this_box a_this_row a_this_text a_this_numbers a_this_before v_states v_empty v_cut v_rowMany v_taken v_found v_textLong v_at v_stopped o_all) r) 0 0 (va_A (ww_X8_unknownNow cI cM a_this a_this_all a_this_past a_this_refused a_this_box a_this_row a_this_text a_this_numbers a_this_before v_states v_empty v_cut v_rowMany v_taken v_found v_textLong v_at v_stopped v_all) sz) := by
  refine g_met (cc := cX8_unknownNow) (maxL := 4) (ret := (some .int)) (Qc := fun D A => g_QI D (g_tys cI cM) A (ww_X8_unknownNow cI cM a_this a_this_all a_this_past a_this_refused a_this_box a_this_row a_this_text a_this_numbers a_this_before v_states v_empty v_cut v_rowMany v_taken v_found v_textLong v_at v_stopped o_all) r) (by decide) rfl ?_
  intro p e s m below meth c A C0 hA hK hP hD
  have hl := lv_entry ([.ref a_this, .int x1, .int x2]) (n := 4) (Nat.le_of_ble_eq_true rfl)
  rw [lg_entry_eq]
  generalize (lg_sl ([.ref a_this, .int x1, .int x2]) ++ List.replicate (4 - (lg_sl ([.ref a_this, .int x1, .int x2])).length) Slot.unset).toArray = ls at hl ⊢
  have hl : lv_has ls 4 [(0, .ref a_this), (1, .int x1), (2, .int x2)] := hl
  exact w_X8_unknownNow_B0 C0 hA hK v_all x1 x2 s.heap [] ls hf hP hD va_S.rf (lv_sub hl [0, 1, 2] rfl)
/-! FloatBoxesModel.unknown(II)I -/
abbrev rm_X8_unknown : Room := { frames := 3, cells := 0, slots := 0, locals := 67 }
abbrev ww_X8_unknown (cI cM : ClassId) (a_this a_this_all a_this_past a_this_refused a_this_box a_this_row a_this_text a_this_numbers a_this_before : Nat) (v_states : Int32) (v_empty : Int32) (v_cut : Int32) (v_rowMany : Int32) (v_taken : Int32) (v_found : Int32) (v_textLong : Int32) (v_at : Int32) (v_stopped : Int32) (v_all : Nat → Int32) (v_past : Nat → Int32) (v_refused : Nat → Int32) : va_W := [(a_this, .inr (6, [.ref a_this_all, .ref a_this_past, .int v_states, .ref a_this_refused, .ref a_this_box, .int v_empty, .int v_cut, .ref a_this_row, .int v_rowMany, .int v_taken, .int v_found, .ref a_this_text, .int v_textLong, .int v_at, .ref a_this_numbers, .int v_stopped, .ref a_this_before])), (a_this_all, .inl (cI, 38, .inl v_all)), (a_this_past, .inl (cI, 190, .inl v_past)), (a_this_refused, .inl (cI, 3, .inl v_refused))]
def f_X8_unknown (N : Nat) (v_states : Int32) (v_all : Nat → Int32) (v_past : Nat → Int32) (v_refused : Nat → Int32) (x1 : Int32) (x2 : Int32) : Option (Int32 × Int32 × (Nat → Int32) × (Nat → Int32) × (Nat → Int32)) :=
  o_b1 (f_X8_canUnknown v_all x1 x2) (fun (r3 : Int32) =>
  if 0 ≤ r3 then
    o_b2 (f_X8_keep N v_all v_states v_past) (fun (v_states_18 : Int32) (v_past_18 : Nat → Int32) =>
    o_b2 (f_X8_unknownNow v_all x1 x2) (fun (r24 : Int32) (v_all_24 : Nat → Int32) =>
    some (r24, v_states_18, v_all_24, v_past_18, v_refused)))
  else
    o_b2 (f_X8_refuses v_refused r3) (fun (r13 : Int32) (v_refused_13 : Nat → Int32) =>
    some (r13, v_states, v_all, v_past, v_refused_13)))
set_option maxHeartbeats 4000000 in
set_option maxRecDepth 100000 in
theorem w_X8_unknown_B0 {p : Program} {l : Launch} {e : Env} {s : State} {m : MethodId} {args : Array Value} {below : List Frame} {meth : Method} {c : Code} {D : va_G} {cI cM : ClassId} {A : Nat → Prop} {a_this a_this_all a_this_past a_this_refused a_this_box a_this_row a_this_text a_this_numbers a_this_before : Nat} {v_empty : Int32} {v_cut : Int32} {v_rowMany : Int32} {v_taken : Int32} {v_found : Int32} {v_textLong : Int32} {v_at : Int32} {v_stopped : Int32} {N : Nat} {r : Int32} {o_states : Int32} {o_all : Nat → Int32} {o_past : Nat → Int32} {o_refused : Nat → Int32} (C0 : g_cx cX8_unknown (some .int) 4 RX8 wsX8_unknown p s m args meth c) (hA : ∀ q, s.heap.size ≤ q → A q) (hK : va_K D vwCl (g_tys cI cM) s) : ∀ (v_states : Int32) (v_all : Nat → Int32) (v_past : Nat → Int32) (v_refused : Nat → Int32) (x1 : Int32) (x2 : Int32) (H : Heap) (locs : List Loc) (ls : Array Slot), f_X8_unknown N v_states v_all v_past v_refused x1 x2 = some (r, o_states, o_all, o_past, o_refused) → va_P D vwCl (ww_X8_unknown cI cM a_this a_this_all a_this_past a_this_refused a_this_box a_this_row a_this_text a_this_numbers a_this_before v_states v_empty v_cut v_rowMany v_taken v_found v_textLong v_at v_stopped v_all v_past v_refused) H → va_D A (ww_X8_unknown cI cM a_this a_this_all a_this_past a_this_refused a_this_box a_this_row a_this_text a_this_numbers a_this_before v_states v_empty v_cut v_rowMany v_taken v_found v_textLong v_at v_stopped v_all v_past v_refused) → va_S A s.heap H locs → lv_has ls 4 [(0, .ref a_this), (1, .int x1), (2, .int x2)] → W p l e rm_X8_unknown s m args below meth c H locs 0 0 (MQ below (g_QI D (g_tys cI cM) A (ww_X8_unknown cI cM a_this a_this_all a_this_past a_this_refused a_this_box a_this_row a_this_text a_this_numbers a_this_before o_states v_empty v_cut v_rowMany v_taken v_found v_textLong v_at v_stopped o_all o_past o_refused) r) args s 0 0 A) (F0 m 0 ls []) := by
  obtain ⟨hx, hb, hr, hml, hown, hts, hlocks⟩ := id C0
  intro v_states v_all v_past v_refused x1 x2 H locs ls hf hP hD hS hl
  unfold f_X8_unknown at hf
  refine lv_aload_n hx hb dX8_unknown_0 rfl (lv_at hl 0 rfl) ?_
  refine lv_iload_n hx hb dX8_unknown_1 rfl (lv_at hl 1 rfl) ?_
  refine lv_iload_n hx hb dX8_unknown_2 rfl (lv_at hl 2 rfl) ?_
  obtain ⟨r3, hg3, hf⟩ := o_b1_go hf
  refine g_callVi (wn := (ww_X8_unknown cI cM a_this a_this_all a_this_past a_this_refused a_this_box a_this_row a_this_text a_this_numbers a_this_before v_states v_empty v_cut v_rowMany v_taken v_found v_textLong v_at v_stopped v_all v_past v_refused)) (rest := []) ⟨hx, hb, hml, hown, hts⟩ (c_X8_canUnknown l D cI cM a_this a_this_all a_this_past a_this_refused a_this_box a_this_row a_this_text a_this_numbers a_this_before H.size v_states v_empty v_cut v_rowMany v_taken v_found v_textLong v_at v_stopped v_all hg3) (cwV 2 hts gX8_unknown_X8_canUnknown rfl rfl rfl (by decide +kernel) ⟨Nat.le_of_ble_eq_true rfl, Nat.le_of_ble_eq_true rfl⟩) hK hP hD hS hA [0, 1] [2, 3] [2, 3, 0, 1] rfl rfl rfl rfl rfl rfl (by decide) rfl rfl rfl hl.1 rfl (Nat.le_of_ble_eq_true rfl) dX8_unknown_3 (fun H locs hP hD hS => ?_)
  refine lv_istore_n (lv' := [(3, .int r3), (0, .ref a_this), (1, .int x1), (2, .int x2)]) hx hb dX8_unknown_6 rfl hl (by decide) rfl (fun ls hl => ?_)
  refine lv_iload_n hx hb dX8_unknown_7 rfl (lv_at hl 0 rfl) ?_
  refine lv_if_ge (tgt := 17) hx hb dX8_unknown_8 (by decide) (fun c8 => ?_) (fun c8 => ?_)
  · replace hf := o_t c8 hf
    refine lv_aload_n hx hb dX8_unknown_17 rfl (lv_at hl 1 rfl) ?_
    obtain ⟨v_states_18, v_past_18, hg18, hf⟩ := o_b2_go hf
    refine g_callVv (wn := (ww_X8_unknown cI cM a_this a_this_all a_this_past a_this_refused a_this_box a_this_row a_this_text a_this_numbers a_this_before v_states_18 v_empty v_cut v_rowMany v_taken v_found v_textLong v_at v_stopped v_all v_past_18 v_refused)) (rest := []) ⟨hx, hb, hml, hown, hts⟩ (c_X8_keep l D cI cM a_this a_this_all a_this_past a_this_refused a_this_box a_this_row a_this_text a_this_numbers a_this_before H.size v_states v_empty v_cut v_rowMany v_taken v_found v_textLong v_at v_stopped v_all v_past hg18) (cwV 0 hts gX8_unknown_X8_keep rfl rfl rfl (by decide +kernel) ⟨Nat.le_of_ble_eq_true rfl, Nat.le_of_ble_eq_true rfl⟩) hK hP hD hS hA [0, 1, 2] [3] [1, 2, 3, 0] rfl rfl rfl rfl rfl rfl (by decide) rfl rfl rfl hl.1 rfl (Nat.le_of_ble_eq_true rfl) dX8_unknown_18 (fun H locs hP hD hS => ?_)
    refine lv_aload_n hx hb dX8_unknown_21 rfl (lv_at hl 1 rfl) ?_
    refine lv_iload_n hx hb dX8_unknown_22 rfl (lv_at hl 2 rfl) ?_
    refine lv_iload_n hx hb dX8_unknown_23 rfl (lv_at hl 3 rfl) ?_
    obtain ⟨r24, v_all_24, hg24, hf⟩ := o_b2_go hf
    refine g_callVi (wn := (ww_X8_unknown cI cM a_this a_this_all a_this_past a_this_refused a_this_box a_this_row a_this_text a_this_numbers a_this_before v_states_18 v_empty v_cut v_rowMany v_taken v_found v_textLong v_at v_stopped v_all_24 v_past_18 v_refused)) (rest := []) ⟨hx, hb, hml, hown, hts⟩ (c_X8_unknownNow l D cI cM a_this a_this_all a_this_past a_this_refused a_this_box a_this_row a_this_text a_this_numbers a_this_before H.size v_states_18 v_empty v_cut v_rowMany v_taken v_found v_textLong v_at v_stopped v_all hg24) (cwV 2 hts gX8_unknown_X8_unknownNow rfl rfl rfl (by decide +kernel) ⟨Nat.le_of_ble_eq_true rfl, Nat.le_of_ble_eq_true rfl⟩) hK hP hD hS hA [0, 1] [2, 3] [2, 3, 0, 1] rfl rfl rfl rfl rfl rfl (by decide) rfl rfl rfl hl.1 rfl (Nat.le_of_ble_eq_true rfl) dX8_unknown_24 (fun H locs hP hD hS => ?_)
    obtain ⟨q0, y0⟩ := o_rp hf
    obtain ⟨q1, y1⟩ := o_rp y0
    obtain ⟨q2, y2⟩ := o_rp y1
    obtain ⟨q3, y3⟩ := o_rp y2
    have q4 := Option.some.inj y3
    subst q0 q1 q2 q3 q4
    exact g_iret hx hb hr hlocks hP hD hK hS dX8_unknown_27
  · replace hf := o_f c8 hf
    refine lv_aload_n hx hb dX8_unknown_11 rfl (lv_at hl 1 rfl) ?_
    refine lv_iload_n hx hb dX8_unknown_12 rfl (lv_at hl 0 rfl) ?_
    obtain ⟨r13, v_refused_13, hg13, hf⟩ := o_b2_go hf
    refine g_callVi (wn := (ww_X8_unknown cI cM a_this a_this_all a_this_past a_this_refused a_this_box a_this_row a_this_text a_this_numbers a_this_before v_states v_empty v_cut v_rowMany v_taken v_found v_textLong v_at v_stopped v_all v_past v_refused_13)) (rest := []) ⟨hx, hb, hml, hown, hts⟩ (c_X8_refuses l D cI cM a_this a_this_all a_this_past a_this_refused a_this_box a_this_row a_this_text a_this_numbers a_this_before H.size v_states v_empty v_cut v_rowMany v_taken v_found v_textLong v_at v_stopped v_refused hg13) (cwV 1 hts gX8_unknown_X8_refuses rfl rfl rfl (by decide +kernel) ⟨Nat.le_of_ble_eq_true rfl, Nat.le_of_ble_eq_true rfl⟩) hK hP hD hS hA [0, 3] [1, 2] [2, 0, 1, 3] rfl rfl rfl rfl rfl rfl (by decide) rfl rfl rfl hl.1 rfl (Nat.le_of_ble_eq_true rfl) dX8_unknown_13 (fun H locs hP hD hS => ?_)
    obtain ⟨q0, y0⟩ := o_rp hf
    obtain ⟨q1, y1⟩ := o_rp y0
    obtain ⟨q2, y2⟩ := o_rp y1
    obtain ⟨q3, y3⟩ := o_rp y2
    have q4 := Option.some.inj y3
    subst q0 q1 q2 q3 q4
    exact g_iret hx hb hr hlocks hP hD hK hS dX8_unknown_16
set_option maxHeartbeats 4000000 in
set_option maxRecDepth 100000 in
theorem c_X8_unknown (l : Launch) (D : va_G) (cI cM : ClassId) (a_this a_this_all a_this_past a_this_refused a_this_box a_this_row a_this_text a_this_numbers a_this_before : Nat) (sz : Nat) (v_states : Int32) (v_empty : Int32) (v_cut : Int32) (v_rowMany : Int32) (v_taken : Int32) (v_found : Int32) (v_textLong : Int32) (v_at : Int32) (v_stopped : Int32) (v_all : Nat → Int32) (v_past : Nat → Int32) (v_refused : Nat → Int32) {N : Nat} {x1 : Int32} {x2 : Int32} {r : Int32} {o_states : Int32} {o_all : Nat → Int32} {o_past : Nat → Int32} {o_refused : Nat → Int32} (hf : f_X8_unknown N v_states v_all v_past v_refused x1 x2 = some (r, o_states, o_all, o_past, o_refused)) : Met l yX8_unknown wsX8_unknown rm_X8_unknown (g_Pc D (g_tys cI cM) (ww_X8_unknown cI cM a_this a_this_all a_this_past a_this_refused a_this_box a_this_row a_this_text a_this_numbers a_this_before v_states v_empty v_cut v_rowMany v_taken v_found v_textLong v_at v_stopped v_all v_past v_refused) sz [.ref a_this, .int x1, .int x2]) (g_QI D (g_tys cI cM) (va_A (ww_X8_unknown cI cM a_this a_this_all a_this_past a_this_refused a_this_box a_this_row a_this_text a_this_numbers a_this_before v_states v_empty v_cut v_rowMany v_taken v_found v_textLong v_at v_stopped v_all v_past v_refused) sz) (ww_X8_unknown cI cM a_this a_this_all a_this_past a_this_refused a_this_box a_this_row a_this_text a_this_numbers a_this_before o_states v_empty v_cut v_rowMany v_taken v_found v_textLong v_at v_stopped o_all o_past o_refused) r) 0 0 (va_A (ww_X8_unknown cI cM a_this a_this_all a_this_past a_this_refused a_this_box a_this_row a_this_text a_this_numbers a_this_before v_states v_empty v_cut v_rowMany v_taken v_found v_textLong v_at v_stopped v_all v_past v_refused) sz) := by
  refine g_met (cc := cX8_unknown) (maxL := 4) (ret := (some .int)) (Qc := fun D A => g_QI D (g_tys cI cM) A (ww_X8_unknown cI cM a_this a_this_all a_this_past a_this_refused a_this_box a_this_row a_this_text a_this_numbers a_this_before o_states v_empty v_cut v_rowMany v_taken v_found v_textLong v_at v_stopped o_all o_past o_refused) r) (by decide) rfl ?_
  intro p e s m below meth c A C0 hA hK hP hD
  have hl := lv_entry ([.ref a_this, .int x1, .int x2]) (n := 4) (Nat.le_of_ble_eq_true rfl)
  rw [lg_entry_eq]
  generalize (lg_sl ([.ref a_this, .int x1, .int x2]) ++ List.replicate (4 - (lg_sl ([.ref a_this, .int x1, .int x2])).length) Slot.unset).toArray = ls at hl ⊢
  have hl : lv_has ls 4 [(0, .ref a_this), (1, .int x1), (2, .int x2)] := hl
  exact w_X8_unknown_B0 C0 hA hK v_states v_all v_past v_refused x1 x2 s.heap [] ls hf hP hD va_S.rf (lv_sub hl [0, 1, 2] rfl)
/-! FloatBoxesModel.range(III)I -/
abbrev rm_X8_range : Room := { frames := 2, cells := 0, slots := 0, locals := 46 }
abbrev ww_X8_range (cI cM : ClassId) (a_this a_this_all a_this_past a_this_refused a_this_box a_this_row a_this_text a_this_numbers a_this_before : Nat) (v_states : Int32) (v_empty : Int32) (v_cut : Int32) (v_rowMany : Int32) (v_taken : Int32) (v_found : Int32) (v_textLong : Int32) (v_at : Int32) (v_stopped : Int32) (v_all : Nat → Int32) (v_refused : Nat → Int32) (v_past : Nat → Int32) : va_W := [(a_this, .inr (6, [.ref a_this_all, .ref a_this_past, .int v_states, .ref a_this_refused, .ref a_this_box, .int v_empty, .int v_cut, .ref a_this_row, .int v_rowMany, .int v_taken, .int v_found, .ref a_this_text, .int v_textLong, .int v_at, .ref a_this_numbers, .int v_stopped, .ref a_this_before])), (a_this_all, .inl (cI, 38, .inl v_all)), (a_this_refused, .inl (cI, 3, .inl v_refused)), (a_this_past, .inl (cI, 190, .inl v_past))]
def f_X8_range_B27 (N : Nat) (v_states : Int32) (v_all : Nat → Int32) (v_refused : Nat → Int32) (v_past : Nat → Int32) : Option (Int32 × Int32 × (Nat → Int32) × (Nat → Int32) × (Nat → Int32)) :=
  o_b2 (f_X8_refuses v_refused ((-2139095050))) (fun (r30 : Int32) (v_refused_30 : Nat → Int32) =>
  some (r30, v_states, v_all, v_refused_30, v_past))
set_option maxHeartbeats 4000000 in
set_option maxRecDepth 100000 in
theorem w_X8_range_B27 {p : Program} {l : Launch} {e : Env} {s : State} {m : MethodId} {args : Array Value} {below : List Frame} {meth : Method} {c : Code} {D : va_G} {cI cM : ClassId} {A : Nat → Prop} {a_this a_this_all a_this_past a_this_refused a_this_box a_this_row a_this_text a_this_numbers a_this_before : Nat} {v_empty : Int32} {v_cut : Int32} {v_rowMany : Int32} {v_taken : Int32} {v_found : Int32} {v_textLong : Int32} {v_at : Int32} {v_stopped : Int32} {N : Nat} {r : Int32} {o_states : Int32} {o_all : Nat → Int32} {o_refused : Nat → Int32} {o_past : Nat → Int32} (C0 : g_cx cX8_range (some .int) 7 RX8 wsX8_range p s m args meth c) (hA : ∀ q, s.heap.size ≤ q → A q) (hK : va_K D vwCl (g_tys cI cM) s) : ∀ (v_states : Int32) (v_all : Nat → Int32) (v_refused : Nat → Int32) (v_past : Nat → Int32) (H : Heap) (locs : List Loc) (ls : Array Slot), f_X8_range_B27 N v_states v_all v_refused v_past = some (r, o_states, o_all, o_refused, o_past) → va_P D vwCl (ww_X8_range cI cM a_this a_this_all a_this_past a_this_refused a_this_box a_this_row a_this_text a_this_numbers a_this_before v_states v_empty v_cut v_rowMany v_taken v_found v_textLong v_at v_stopped v_all v_refused v_past) H → va_D A (ww_X8_range cI cM a_this a_this_all a_this_past a_this_refused a_this_box a_this_row a_this_text a_this_numbers a_this_before v_states v_empty v_cut v_rowMany v_taken v_found v_textLong v_at v_stopped v_all v_refused v_past) → va_S A s.heap H locs → lv_has ls 7 [(0, .ref a_this)] → W p l e rm_X8_range s m args below meth c H locs 0 0 (MQ below (g_QI D (g_tys cI cM) A (ww_X8_range cI cM a_this a_this_all a_this_past a_this_refused a_this_box a_this_row a_this_text a_this_numbers a_this_before o_states v_empty v_cut v_rowMany v_taken v_found v_textLong v_at v_stopped o_all o_refused o_past) r) args s 0 0 A) (F0 m 27 ls []) := by
  obtain ⟨hx, hb, hr, hml, hown, hts, hlocks⟩ := id C0
  intro v_states v_all v_refused v_past H locs ls hf hP hD hS hl
  unfold f_X8_range_B27 at hf
  refine lv_aload_n hx hb dX8_range_27 rfl (lv_at hl 0 rfl) ?_
  refine lv_ldc (v := (-2139095050)) hx hb hown (hts (.constant RX8 42 (-2139095050)) (List.mem_cons_of_mem _ (List.mem_append_left _ (List.mem_append_left _ (List.mem_of_getElem? (i := 0) rfl))))) dX8_range_28 ?_
  obtain ⟨r30, v_refused_30, hg30, hf⟩ := o_b2_go hf
  refine g_callVi (wn := (ww_X8_range cI cM a_this a_this_all a_this_past a_this_refused a_this_box a_this_row a_this_text a_this_numbers a_this_before v_states v_empty v_cut v_rowMany v_taken v_found v_textLong v_at v_stopped v_all v_refused_30 v_past)) (rest := []) ⟨hx, hb, hml, hown, hts⟩ (c_X8_refuses l D cI cM a_this a_this_all a_this_past a_this_refused a_this_box a_this_row a_this_text a_this_numbers a_this_before H.size v_states v_empty v_cut v_rowMany v_taken v_found v_textLong v_at v_stopped v_refused hg30) (cwV 1 hts gX8_range_X8_refuses rfl rfl rfl (by decide +kernel) ⟨Nat.le_of_ble_eq_true rfl, Nat.le_of_ble_eq_true rfl⟩) hK hP hD hS hA [0, 2] [1, 3] [2, 0, 3, 1] rfl rfl rfl rfl rfl rfl (by decide) rfl rfl rfl hl.1 rfl (Nat.le_of_ble_eq_true rfl) dX8_range_30 (fun H locs hP hD hS => ?_)
  obtain ⟨q0, y0⟩ := o_rp hf
  obtain ⟨q1, y1⟩ := o_rp y0
  obtain ⟨q2, y2⟩ := o_rp y1
  obtain ⟨q3, y3⟩ := o_rp y2
  have q4 := Option.some.inj y3
  subst q0 q1 q2 q3 q4
  exact g_iret hx hb hr hlocks hP hD hK hS dX8_range_33
def f_X8_range_B138 (N : Nat) (k66 : Int32 → (Nat → Int32) → (Nat → Int32) → (Nat → Int32) → Int32 → Int32 → Int32 → Option (Int32 × Int32 × (Nat → Int32) × (Nat → Int32) × (Nat → Int32))) (v_states : Int32) (v_all : Nat → Int32) (v_refused : Nat → Int32) (v_past : Nat → Int32) (x1 : Int32) (x5 : Int32) (z0 : Int32) (z1 : Int32) : Option (Int32 × Int32 × (Nat → Int32) × (Nat → Int32) × (Nat → Int32)) :=
  o_nm (z0 + z1) (fun (t139 : Int32) =>
  k66 v_states v_all v_refused v_past x1 t139 (x5 + 1))
set_option maxHeartbeats 4000000 in
set_option maxRecDepth 100000 in
theorem w_X8_range_B138 {p : Program} {l : Launch} {e : Env} {s : State} {m : MethodId} {args : Array Value} {below : List Frame} {meth : Method} {c : Code} {D : va_G} {cI cM : ClassId} {A : Nat → Prop} {a_this a_this_all a_this_past a_this_refused a_this_box a_this_row a_this_text a_this_numbers a_this_before : Nat} {v_empty : Int32} {v_cut : Int32} {v_rowMany : Int32} {v_taken : Int32} {v_found : Int32} {v_textLong : Int32} {v_at : Int32} {v_stopped : Int32} {N : Nat} {r : Int32} {o_states : Int32} {o_all : Nat → Int32} {o_refused : Nat → Int32} {o_past : Nat → Int32} (C0 : g_cx cX8_range (some .int) 7 RX8 wsX8_range p s m args meth c) (hA : ∀ q, s.heap.size ≤ q → A q) (hK : va_K D vwCl (g_tys cI cM) s) (k66 : Int32 → (Nat → Int32) → (Nat → Int32) → (Nat → Int32) → Int32 → Int32 → Int32 → Option (Int32 × Int32 × (Nat → Int32) × (Nat → Int32) × (Nat → Int32))) (hk66 : ∀ (v_states : Int32) (v_all : Nat → Int32) (v_refused : Nat → Int32) (v_past : Nat → Int32) (x1 : Int32) (x4 : Int32) (x5 : Int32) (H : Heap) (locs : List Loc) (ls : Array Slot), k66 v_states v_all v_refused v_past x1 x4 x5 = some (r, o_states, o_all, o_refused, o_past) → va_P D vwCl (ww_X8_range cI cM a_this a_this_all a_this_past a_this_refused a_this_box a_this_row a_this_text a_this_numbers a_this_before v_states v_empty v_cut v_rowMany v_taken v_found v_textLong v_at v_stopped v_all v_refused v_past) H → va_D A (ww_X8_range cI cM a_this a_this_all a_this_past a_this_refused a_this_box a_this_row a_this_text a_this_numbers a_this_before v_states v_empty v_cut v_rowMany v_taken v_found v_textLong v_at v_stopped v_all v_refused v_past) → va_S A s.heap H locs → lv_has ls 7 [(0, .ref a_this), (1, .int x1), (4, .int x4), (5, .int x5)] → W p l e rm_X8_range s m args below meth c H locs 0 0 (MQ below (g_QI D (g_tys cI cM) A (ww_X8_range cI cM a_this a_this_all a_this_past a_this_refused a_this_box a_this_row a_this_text a_this_numbers a_this_before o_states v_empty v_cut v_rowMany v_taken v_found v_textLong v_at v_stopped o_all o_refused o_past) r) args s 0 0 A) (F0 m 66 ls [])) : ∀ (v_states : Int32) (v_all : Nat → Int32) (v_refused : Nat → Int32) (v_past : Nat → Int32) (x1 : Int32) (x5 : Int32) (z0 : Int32) (z1 : Int32) (H : Heap) (locs : List Loc) (ls : Array Slot), f_X8_range_B138 N k66 v_states v_all v_refused v_past x1 x5 z0 z1 = some (r, o_states, o_all, o_refused, o_past) → va_P D vwCl (ww_X8_range cI cM a_this a_this_all a_this_past a_this_refused a_this_box a_this_row a_this_text a_this_numbers a_this_before v_states v_empty v_cut v_rowMany v_taken v_found v_textLong v_at v_stopped v_all v_refused v_past) H → va_D A (ww_X8_range cI cM a_this a_this_all a_this_past a_this_refused a_this_box a_this_row a_this_text a_this_numbers a_this_before v_states v_empty v_cut v_rowMany v_taken v_found v_textLong v_at v_stopped v_all v_refused v_past) → va_S A s.heap H locs → lv_has ls 7 [(0, .ref a_this), (1, .int x1), (5, .int x5)] → W p l e rm_X8_range s m args below meth c H locs 0 0 (MQ below (g_QI D (g_tys cI cM) A (ww_X8_range cI cM a_this a_this_all a_this_past a_this_refused a_this_box a_this_row a_this_text a_this_numbers a_this_before o_states v_empty v_cut v_rowMany v_taken v_found v_textLong v_at v_stopped o_all o_refused o_past) r) args s 0 0 A) (F0 m 138 ls [.int z1, .int z0]) := by
  obtain ⟨hx, hb, hr, hml, hown, hts, hlocks⟩ := id C0
  intro v_states v_all v_refused v_past x1 x5 z0 z1 H locs ls hf hP hD hS hl
  unfold f_X8_range_B138 at hf
  refine lv_iadd hx hb dX8_range_138 ?_
  refine lv_topi (fun t139 et139 => ?_)
  replace hf := o_nm_go et139 hf
  refine lv_istore (lv' := [(4, .int t139), (0, .ref a_this), (1, .int x1), (5, .int x5)]) hx hb dX8_range_139 hl (by decide) rfl (fun ls hl => ?_)
  refine lv_iinc (v := x5 + 1) (lv' := [(5, .int (x5 + 1)), (4, .int t139), (0, .ref a_this), (1, .int x1)]) hx hb dX8_range_141 hl (k := 3) rfl rfl (by decide) rfl (fun ls hl => ?_)
  refine lv_goto (tgt := 66) hx hb dX8_range_144 (by decide) ?_
  exact hk66 v_states v_all v_refused v_past x1 t139 (x5 + 1) H locs ls hf hP hD hS (lv_sub hl [2, 3, 1, 0] rfl)
def f_X8_range_B133 (N : Nat) (k66 : Int32 → (Nat → Int32) → (Nat → Int32) → (Nat → Int32) → Int32 → Int32 → Int32 → Option (Int32 × Int32 × (Nat → Int32) × (Nat → Int32) × (Nat → Int32))) (v_states : Int32) (v_all : Nat → Int32) (v_refused : Nat → Int32) (v_past : Nat → Int32) (x1 : Int32) (x5 : Int32) (z0 : Int32) : Option (Int32 × Int32 × (Nat → Int32) × (Nat → Int32) × (Nat → Int32)) :=
  f_X8_range_B138 N k66 v_states v_all v_refused v_past x1 x5 z0 1
set_option maxHeartbeats 4000000 in
set_option maxRecDepth 100000 in
theorem w_X8_range_B133 {p : Program} {l : Launch} {e : Env} {s : State} {m : MethodId} {args : Array Value} {below : List Frame} {meth : Method} {c : Code} {D : va_G} {cI cM : ClassId} {A : Nat → Prop} {a_this a_this_all a_this_past a_this_refused a_this_box a_this_row a_this_text a_this_numbers a_this_before : Nat} {v_empty : Int32} {v_cut : Int32} {v_rowMany : Int32} {v_taken : Int32} {v_found : Int32} {v_textLong : Int32} {v_at : Int32} {v_stopped : Int32} {N : Nat} {r : Int32} {o_states : Int32} {o_all : Nat → Int32} {o_refused : Nat → Int32} {o_past : Nat → Int32} (C0 : g_cx cX8_range (some .int) 7 RX8 wsX8_range p s m args meth c) (hA : ∀ q, s.heap.size ≤ q → A q) (hK : va_K D vwCl (g_tys cI cM) s) (k66 : Int32 → (Nat → Int32) → (Nat → Int32) → (Nat → Int32) → Int32 → Int32 → Int32 → Option (Int32 × Int32 × (Nat → Int32) × (Nat → Int32) × (Nat → Int32))) (hk66 : ∀ (v_states : Int32) (v_all : Nat → Int32) (v_refused : Nat → Int32) (v_past : Nat → Int32) (x1 : Int32) (x4 : Int32) (x5 : Int32) (H : Heap) (locs : List Loc) (ls : Array Slot), k66 v_states v_all v_refused v_past x1 x4 x5 = some (r, o_states, o_all, o_refused, o_past) → va_P D vwCl (ww_X8_range cI cM a_this a_this_all a_this_past a_this_refused a_this_box a_this_row a_this_text a_this_numbers a_this_before v_states v_empty v_cut v_rowMany v_taken v_found v_textLong v_at v_stopped v_all v_refused v_past) H → va_D A (ww_X8_range cI cM a_this a_this_all a_this_past a_this_refused a_this_box a_this_row a_this_text a_this_numbers a_this_before v_states v_empty v_cut v_rowMany v_taken v_found v_textLong v_at v_stopped v_all v_refused v_past) → va_S A s.heap H locs → lv_has ls 7 [(0, .ref a_this), (1, .int x1), (4, .int x4), (5, .int x5)] → W p l e rm_X8_range s m args below meth c H locs 0 0 (MQ below (g_QI D (g_tys cI cM) A (ww_X8_range cI cM a_this a_this_all a_this_past a_this_refused a_this_box a_this_row a_this_text a_this_numbers a_this_before o_states v_empty v_cut v_rowMany v_taken v_found v_textLong v_at v_stopped o_all o_refused o_past) r) args s 0 0 A) (F0 m 66 ls [])) : ∀ (v_states : Int32) (v_all : Nat → Int32) (v_refused : Nat → Int32) (v_past : Nat → Int32) (x1 : Int32) (x5 : Int32) (z0 : Int32) (H : Heap) (locs : List Loc) (ls : Array Slot), f_X8_range_B133 N k66 v_states v_all v_refused v_past x1 x5 z0 = some (r, o_states, o_all, o_refused, o_past) → va_P D vwCl (ww_X8_range cI cM a_this a_this_all a_this_past a_this_refused a_this_box a_this_row a_this_text a_this_numbers a_this_before v_states v_empty v_cut v_rowMany v_taken v_found v_textLong v_at v_stopped v_all v_refused v_past) H → va_D A (ww_X8_range cI cM a_this a_this_all a_this_past a_this_refused a_this_box a_this_row a_this_text a_this_numbers a_this_before v_states v_empty v_cut v_rowMany v_taken v_found v_textLong v_at v_stopped v_all v_refused v_past) → va_S A s.heap H locs → lv_has ls 7 [(0, .ref a_this), (1, .int x1), (5, .int x5)] → W p l e rm_X8_range s m args below meth c H locs 0 0 (MQ below (g_QI D (g_tys cI cM) A (ww_X8_range cI cM a_this a_this_all a_this_past a_this_refused a_this_box a_this_row a_this_text a_this_numbers a_this_before o_states v_empty v_cut v_rowMany v_taken v_found v_textLong v_at v_stopped o_all o_refused o_past) r) args s 0 0 A) (F0 m 133 ls [.int z0]) := by
  obtain ⟨hx, hb, hr, hml, hown, hts, hlocks⟩ := id C0
  intro v_states v_all v_refused v_past x1 x5 z0 H locs ls hf hP hD hS hl
  unfold f_X8_range_B133 at hf
  refine lv_iconst (v := 1) hx hb dX8_range_133 (by decide) ?_
  refine lv_goto (tgt := 138) hx hb dX8_range_134 (by decide) ?_
  exact w_X8_range_B138 C0 hA hK k66 hk66 v_states v_all v_refused v_past x1 x5 z0 1 H locs ls hf hP hD hS (lv_sub hl [0, 1, 2] rfl)
def f_X8_range_B102 (N : Nat) (k66 : Int32 → (Nat → Int32) → (Nat → Int32) → (Nat → Int32) → Int32 → Int32 → Int32 → Option (Int32 × Int32 × (Nat → Int32) × (Nat → Int32) × (Nat → Int32))) (v_states : Int32) (v_all : Nat → Int32) (v_refused : Nat → Int32) (v_past : Nat → Int32) (x1 : Int32) (x4 : Int32) (x5 : Int32) (z0 : Int32) : Option (Int32 × Int32 × (Nat → Int32) × (Nat → Int32) × (Nat → Int32)) :=
  o_b1 (f_X8_ruleAt v_all x5 1) (fun (r110 : Int32) =>
  if r110 = x1 then
    f_X8_range_B133 N k66 v_states v_all v_refused v_past x1 x5 x4
  else
    o_b1 (f_X8_ruleAt v_all x5 2) (fun (r121 : Int32) =>
    if r121 = x1 then
      f_X8_range_B133 N k66 v_states v_all v_refused v_past x1 x5 x4
    else
      if z0 = 0 then
        f_X8_range_B138 N k66 v_states v_all v_refused v_past x1 x5 x4 0
      else
        f_X8_range_B133 N k66 v_states v_all v_refused v_past x1 x5 x4))
set_option maxHeartbeats 4000000 in
set_option maxRecDepth 100000 in
theorem w_X8_range_B102 {p : Program} {l : Launch} {e : Env} {s : State} {m : MethodId} {args : Array Value} {below : List Frame} {meth : Method} {c : Code} {D : va_G} {cI cM : ClassId} {A : Nat → Prop} {a_this a_this_all a_this_past a_this_refused a_this_box a_this_row a_this_text a_this_numbers a_this_before : Nat} {v_empty : Int32} {v_cut : Int32} {v_rowMany : Int32} {v_taken : Int32} {v_found : Int32} {v_textLong : Int32} {v_at : Int32} {v_stopped : Int32} {N : Nat} {r : Int32} {o_states : Int32} {o_all : Nat → Int32} {o_refused : Nat → Int32} {o_past : Nat → Int32} (C0 : g_cx cX8_range (some .int) 7 RX8 wsX8_range p s m args meth c) (hA : ∀ q, s.heap.size ≤ q → A q) (hK : va_K D vwCl (g_tys cI cM) s) (k66 : Int32 → (Nat → Int32) → (Nat → Int32) → (Nat → Int32) → Int32 → Int32 → Int32 → Option (Int32 × Int32 × (Nat → Int32) × (Nat → Int32) × (Nat → Int32))) (hk66 : ∀ (v_states : Int32) (v_all : Nat → Int32) (v_refused : Nat → Int32) (v_past : Nat → Int32) (x1 : Int32) (x4 : Int32) (x5 : Int32) (H : Heap) (locs : List Loc) (ls : Array Slot), k66 v_states v_all v_refused v_past x1 x4 x5 = some (r, o_states, o_all, o_refused, o_past) → va_P D vwCl (ww_X8_range cI cM a_this a_this_all a_this_past a_this_refused a_this_box a_this_row a_this_text a_this_numbers a_this_before v_states v_empty v_cut v_rowMany v_taken v_found v_textLong v_at v_stopped v_all v_refused v_past) H → va_D A (ww_X8_range cI cM a_this a_this_all a_this_past a_this_refused a_this_box a_this_row a_this_text a_this_numbers a_this_before v_states v_empty v_cut v_rowMany v_taken v_found v_textLong v_at v_stopped v_all v_refused v_past) → va_S A s.heap H locs → lv_has ls 7 [(0, .ref a_this), (1, .int x1), (4, .int x4), (5, .int x5)] → W p l e rm_X8_range s m args below meth c H locs 0 0 (MQ below (g_QI D (g_tys cI cM) A (ww_X8_range cI cM a_this a_this_all a_this_past a_this_refused a_this_box a_this_row a_this_text a_this_numbers a_this_before o_states v_empty v_cut v_rowMany v_taken v_found v_textLong v_at v_stopped o_all o_refused o_past) r) args s 0 0 A) (F0 m 66 ls [])) : ∀ (v_states : Int32) (v_all : Nat → Int32) (v_refused : Nat → Int32) (v_past : Nat → Int32) (x1 : Int32) (x4 : Int32) (x5 : Int32) (z0 : Int32) (H : Heap) (locs : List Loc) (ls : Array Slot), f_X8_range_B102 N k66 v_states v_all v_refused v_past x1 x4 x5 z0 = some (r, o_states, o_all, o_refused, o_past) → va_P D vwCl (ww_X8_range cI cM a_this a_this_all a_this_past a_this_refused a_this_box a_this_row a_this_text a_this_numbers a_this_before v_states v_empty v_cut v_rowMany v_taken v_found v_textLong v_at v_stopped v_all v_refused v_past) H → va_D A (ww_X8_range cI cM a_this a_this_all a_this_past a_this_refused a_this_box a_this_row a_this_text a_this_numbers a_this_before v_states v_empty v_cut v_rowMany v_taken v_found v_textLong v_at v_stopped v_all v_refused v_past) → va_S A s.heap H locs → lv_has ls 7 [(0, .ref a_this), (1, .int x1), (4, .int x4), (5, .int x5)] → W p l e rm_X8_range s m args below meth c H locs 0 0 (MQ below (g_QI D (g_tys cI cM) A (ww_X8_range cI cM a_this a_this_all a_this_past a_this_refused a_this_box a_this_row a_this_text a_this_numbers a_this_before o_states v_empty v_cut v_rowMany v_taken v_found v_textLong v_at v_stopped o_all o_refused o_past) r) args s 0 0 A) (F0 m 102 ls [.int z0]) := by
  obtain ⟨hx, hb, hr, hml, hown, hts, hlocks⟩ := id C0
  intro v_states v_all v_refused v_past x1 x4 x5 z0 H locs ls hf hP hD hS hl
  unfold f_X8_range_B102 at hf
  refine lv_istore (lv' := [(6, .int z0), (0, .ref a_this), (1, .int x1), (4, .int x4), (5, .int x5)]) hx hb dX8_range_102 hl (by decide) rfl (fun ls hl => ?_)
  refine lv_iload hx hb dX8_range_104 (lv_at hl 3 rfl) ?_
  refine lv_aload_n hx hb dX8_range_106 rfl (lv_at hl 1 rfl) ?_
  refine lv_iload hx hb dX8_range_107 (lv_at hl 4 rfl) ?_
  refine lv_iconst (v := 1) hx hb dX8_range_109 (by decide) ?_
  obtain ⟨r110, hg110, hf⟩ := o_b1_go hf
  refine g_callVi (wn := (ww_X8_range cI cM a_this a_this_all a_this_past a_this_refused a_this_box a_this_row a_this_text a_this_numbers a_this_before v_states v_empty v_cut v_rowMany v_taken v_found v_textLong v_at v_stopped v_all v_refused v_past)) (rest := [.int x4]) ⟨hx, hb, hml, hown, hts⟩ (c_X8_ruleAt l D cI cM a_this a_this_all a_this_past a_this_refused a_this_box a_this_row a_this_text a_this_numbers a_this_before H.size v_states v_empty v_cut v_rowMany v_taken v_found v_textLong v_at v_stopped v_all hg110) (cwV 2 hts gX8_range_X8_ruleAt rfl rfl rfl (by decide +kernel) ⟨Nat.le_of_ble_eq_true rfl, Nat.le_of_ble_eq_true rfl⟩) hK hP hD hS hA [0, 1] [2, 3] [2, 3, 0, 1] rfl rfl rfl rfl rfl rfl (by decide) rfl rfl rfl hl.1 rfl (Nat.le_of_ble_eq_true rfl) dX8_range_110 (fun H locs hP hD hS => ?_)
  refine lv_iload_n hx hb dX8_range_113 rfl (lv_at hl 2 rfl) ?_
  refine lv_icmp_eq (tgt := 133) hx hb dX8_range_114 (by decide) (fun c114 => ?_) (fun c114 => ?_)
  · replace hf := o_t c114 hf
    exact w_X8_range_B133 C0 hA hK k66 hk66 v_states v_all v_refused v_past x1 x5 x4 H locs ls hf hP hD hS (lv_sub hl [1, 2, 4] rfl)
  · replace hf := o_f c114 hf
    refine lv_aload_n hx hb dX8_range_117 rfl (lv_at hl 1 rfl) ?_
    refine lv_iload hx hb dX8_range_118 (lv_at hl 4 rfl) ?_
    refine lv_iconst (v := 2) hx hb dX8_range_120 (by decide) ?_
    obtain ⟨r121, hg121, hf⟩ := o_b1_go hf
    refine g_callVi (wn := (ww_X8_range cI cM a_this a_this_all a_this_past a_this_refused a_this_box a_this_row a_this_text a_this_numbers a_this_before v_states v_empty v_cut v_rowMany v_taken v_found v_textLong v_at v_stopped v_all v_refused v_past)) (rest := [.int x4]) ⟨hx, hb, hml, hown, hts⟩ (c_X8_ruleAt l D cI cM a_this a_this_all a_this_past a_this_refused a_this_box a_this_row a_this_text a_this_numbers a_this_before H.size v_states v_empty v_cut v_rowMany v_taken v_found v_textLong v_at v_stopped v_all hg121) (cwV 2 hts gX8_range_X8_ruleAt rfl rfl rfl (by decide +kernel) ⟨Nat.le_of_ble_eq_true rfl, Nat.le_of_ble_eq_true rfl⟩) hK hP hD hS hA [0, 1] [2, 3] [2, 3, 0, 1] rfl rfl rfl rfl rfl rfl (by decide) rfl rfl rfl hl.1 rfl (Nat.le_of_ble_eq_true rfl) dX8_range_121 (fun H locs hP hD hS => ?_)
    refine lv_iload_n hx hb dX8_range_124 rfl (lv_at hl 2 rfl) ?_
    refine lv_icmp_eq (tgt := 133) hx hb dX8_range_125 (by decide) (fun c125 => ?_) (fun c125 => ?_)
    · replace hf := o_t c125 hf
      exact w_X8_range_B133 C0 hA hK k66 hk66 v_states v_all v_refused v_past x1 x5 x4 H locs ls hf hP hD hS (lv_sub hl [1, 2, 4] rfl)
    · replace hf := o_f c125 hf
      refine lv_iload hx hb dX8_range_128 (lv_at hl 0 rfl) ?_
      refine lv_if_eq (tgt := 137) hx hb dX8_range_130 (by decide) (fun c130 => ?_) (fun c130 => ?_)
      · replace hf := o_t c130 hf
        refine lv_iconst (v := 0) hx hb dX8_range_137 (by decide) ?_
        exact w_X8_range_B138 C0 hA hK k66 hk66 v_states v_all v_refused v_past x1 x5 x4 0 H locs ls hf hP hD hS (lv_sub hl [1, 2, 4] rfl)
      · replace hf := o_f c130 hf
        exact w_X8_range_B133 C0 hA hK k66 hk66 v_states v_all v_refused v_past x1 x5 x4 H locs ls hf hP hD hS (lv_sub hl [1, 2, 4] rfl)
def f_X8_range_B101 (N : Nat) (k66 : Int32 → (Nat → Int32) → (Nat → Int32) → (Nat → Int32) → Int32 → Int32 → Int32 → Option (Int32 × Int32 × (Nat → Int32) × (Nat → Int32) × (Nat → Int32))) (v_states : Int32) (v_all : Nat → Int32) (v_refused : Nat → Int32) (v_past : Nat → Int32) (x1 : Int32) (x4 : Int32) (x5 : Int32) : Option (Int32 × Int32 × (Nat → Int32) × (Nat → Int32) × (Nat → Int32)) :=
  f_X8_range_B102 N k66 v_states v_all v_refused v_past x1 x4 x5 0
set_option maxHeartbeats 4000000 in
set_option maxRecDepth 100000 in
theorem w_X8_range_B101 {p : Program} {l : Launch} {e : Env} {s : State} {m : MethodId} {args : Array Value} {below : List Frame} {meth : Method} {c : Code} {D : va_G} {cI cM : ClassId} {A : Nat → Prop} {a_this a_this_all a_this_past a_this_refused a_this_box a_this_row a_this_text a_this_numbers a_this_before : Nat} {v_empty : Int32} {v_cut : Int32} {v_rowMany : Int32} {v_taken : Int32} {v_found : Int32} {v_textLong : Int32} {v_at : Int32} {v_stopped : Int32} {N : Nat} {r : Int32} {o_states : Int32} {o_all : Nat → Int32} {o_refused : Nat → Int32} {o_past : Nat → Int32} (C0 : g_cx cX8_range (some .int) 7 RX8 wsX8_range p s m args meth c) (hA : ∀ q, s.heap.size ≤ q → A q) (hK : va_K D vwCl (g_tys cI cM) s) (k66 : Int32 → (Nat → Int32) → (Nat → Int32) → (Nat → Int32) → Int32 → Int32 → Int32 → Option (Int32 × Int32 × (Nat → Int32) × (Nat → Int32) × (Nat → Int32))) (hk66 : ∀ (v_states : Int32) (v_all : Nat → Int32) (v_refused : Nat → Int32) (v_past : Nat → Int32) (x1 : Int32) (x4 : Int32) (x5 : Int32) (H : Heap) (locs : List Loc) (ls : Array Slot), k66 v_states v_all v_refused v_past x1 x4 x5 = some (r, o_states, o_all, o_refused, o_past) → va_P D vwCl (ww_X8_range cI cM a_this a_this_all a_this_past a_this_refused a_this_box a_this_row a_this_text a_this_numbers a_this_before v_states v_empty v_cut v_rowMany v_taken v_found v_textLong v_at v_stopped v_all v_refused v_past) H → va_D A (ww_X8_range cI cM a_this a_this_all a_this_past a_this_refused a_this_box a_this_row a_this_text a_this_numbers a_this_before v_states v_empty v_cut v_rowMany v_taken v_found v_textLong v_at v_stopped v_all v_refused v_past) → va_S A s.heap H locs → lv_has ls 7 [(0, .ref a_this), (1, .int x1), (4, .int x4), (5, .int x5)] → W p l e rm_X8_range s m args below meth c H locs 0 0 (MQ below (g_QI D (g_tys cI cM) A (ww_X8_range cI cM a_this a_this_all a_this_past a_this_refused a_this_box a_this_row a_this_text a_this_numbers a_this_before o_states v_empty v_cut v_rowMany v_taken v_found v_textLong v_at v_stopped o_all o_refused o_past) r) args s 0 0 A) (F0 m 66 ls [])) : ∀ (v_states : Int32) (v_all : Nat → Int32) (v_refused : Nat → Int32) (v_past : Nat → Int32) (x1 : Int32) (x4 : Int32) (x5 : Int32) (H : Heap) (locs : List Loc) (ls : Array Slot), f_X8_range_B101 N k66 v_states v_all v_refused v_past x1 x4 x5 = some (r, o_states, o_all, o_refused, o_past) → va_P D vwCl (ww_X8_range cI cM a_this a_this_all a_this_past a_this_refused a_this_box a_this_row a_this_text a_this_numbers a_this_before v_states v_empty v_cut v_rowMany v_taken v_found v_textLong v_at v_stopped v_all v_refused v_past) H → va_D A (ww_X8_range cI cM a_this a_this_all a_this_past a_this_refused a_this_box a_this_row a_this_text a_this_numbers a_this_before v_states v_empty v_cut v_rowMany v_taken v_found v_textLong v_at v_stopped v_all v_refused v_past) → va_S A s.heap H locs → lv_has ls 7 [(0, .ref a_this), (1, .int x1), (4, .int x4), (5, .int x5)] → W p l e rm_X8_range s m args below meth c H locs 0 0 (MQ below (g_QI D (g_tys cI cM) A (ww_X8_range cI cM a_this a_this_all a_this_past a_this_refused a_this_box a_this_row a_this_text a_this_numbers a_this_before o_states v_empty v_cut v_rowMany v_taken v_found v_textLong v_at v_stopped o_all o_refused o_past) r) args s 0 0 A) (F0 m 101 ls []) := by
  obtain ⟨hx, hb, hr, hml, hown, hts, hlocks⟩ := id C0
  intro v_states v_all v_refused v_past x1 x4 x5 H locs ls hf hP hD hS hl
  unfold f_X8_range_B101 at hf
  refine lv_iconst (v := 0) hx hb dX8_range_101 (by decide) ?_
  exact w_X8_range_B102 C0 hA hK k66 hk66 v_states v_all v_refused v_past x1 x4 x5 0 H locs ls hf hP hD hS (lv_sub hl [0, 1, 2, 3] rfl)
def f_X8_range_C66 (N : Nat) (k66 : Int32 → (Nat → Int32) → (Nat → Int32) → (Nat → Int32) → Int32 → Int32 → Int32 → Option (Int32 × Int32 × (Nat → Int32) × (Nat → Int32) × (Nat → Int32))) (v_states : Int32) (v_all : Nat → Int32) (v_refused : Nat → Int32) (v_past : Nat → Int32) (x1 : Int32) (x4 : Int32) (x5 : Int32) : Option (Int32 × Int32 × (Nat → Int32) × (Nat → Int32) × (Nat → Int32)) :=
  o_b1 (f_X8_rules v_all) (fun (r69 : Int32) =>
  if r69 ≤ x5 then
    some (x4, v_states, v_all, v_refused, v_past)
  else
    o_b1 (f_X8_ruleAt v_all x5 0) (fun (r79 : Int32) =>
    if 3 ≤ r79 then
      f_X8_range_B101 N k66 v_states v_all v_refused v_past x1 x4 x5
    else
      o_b1 (f_X8_ruleAt v_all x5 3) (fun (r90 : Int32) =>
      if r90 = x1 then
        f_X8_range_B102 N k66 v_states v_all v_refused v_past x1 x4 x5 1
      else
        f_X8_range_B101 N k66 v_states v_all v_refused v_past x1 x4 x5)))
def f_X8_range_L66 (N : Nat) : Nat → Int32 → (Nat → Int32) → (Nat → Int32) → (Nat → Int32) → Int32 → Int32 → Int32 → Option (Int32 × Int32 × (Nat → Int32) × (Nat → Int32) × (Nat → Int32))
  | 0 => fun _ _ _ _ _ _ _ => none
  | n + 1 => f_X8_range_C66 N (f_X8_range_L66 N n)
set_option maxHeartbeats 4000000 in
set_option maxRecDepth 100000 in
theorem w_X8_range_C66 {p : Program} {l : Launch} {e : Env} {s : State} {m : MethodId} {args : Array Value} {below : List Frame} {meth : Method} {c : Code} {D : va_G} {cI cM : ClassId} {A : Nat → Prop} {a_this a_this_all a_this_past a_this_refused a_this_box a_this_row a_this_text a_this_numbers a_this_before : Nat} {v_empty : Int32} {v_cut : Int32} {v_rowMany : Int32} {v_taken : Int32} {v_found : Int32} {v_textLong : Int32} {v_at : Int32} {v_stopped : Int32} {N : Nat} {r : Int32} {o_states : Int32} {o_all : Nat → Int32} {o_refused : Nat → Int32} {o_past : Nat → Int32} (C0 : g_cx cX8_range (some .int) 7 RX8 wsX8_range p s m args meth c) (hA : ∀ q, s.heap.size ≤ q → A q) (hK : va_K D vwCl (g_tys cI cM) s) (k66 : Int32 → (Nat → Int32) → (Nat → Int32) → (Nat → Int32) → Int32 → Int32 → Int32 → Option (Int32 × Int32 × (Nat → Int32) × (Nat → Int32) × (Nat → Int32))) (hk66 : ∀ (v_states : Int32) (v_all : Nat → Int32) (v_refused : Nat → Int32) (v_past : Nat → Int32) (x1 : Int32) (x4 : Int32) (x5 : Int32) (H : Heap) (locs : List Loc) (ls : Array Slot), k66 v_states v_all v_refused v_past x1 x4 x5 = some (r, o_states, o_all, o_refused, o_past) → va_P D vwCl (ww_X8_range cI cM a_this a_this_all a_this_past a_this_refused a_this_box a_this_row a_this_text a_this_numbers a_this_before v_states v_empty v_cut v_rowMany v_taken v_found v_textLong v_at v_stopped v_all v_refused v_past) H → va_D A (ww_X8_range cI cM a_this a_this_all a_this_past a_this_refused a_this_box a_this_row a_this_text a_this_numbers a_this_before v_states v_empty v_cut v_rowMany v_taken v_found v_textLong v_at v_stopped v_all v_refused v_past) → va_S A s.heap H locs → lv_has ls 7 [(0, .ref a_this), (1, .int x1), (4, .int x4), (5, .int x5)] → W p l e rm_X8_range s m args below meth c H locs 0 0 (MQ below (g_QI D (g_tys cI cM) A (ww_X8_range cI cM a_this a_this_all a_this_past a_this_refused a_this_box a_this_row a_this_text a_this_numbers a_this_before o_states v_empty v_cut v_rowMany v_taken v_found v_textLong v_at v_stopped o_all o_refused o_past) r) args s 0 0 A) (F0 m 66 ls [])) : ∀ (v_states : Int32) (v_all : Nat → Int32) (v_refused : Nat → Int32) (v_past : Nat → Int32) (x1 : Int32) (x4 : Int32) (x5 : Int32) (H : Heap) (locs : List Loc) (ls : Array Slot), f_X8_range_C66 N k66 v_states v_all v_refused v_past x1 x4 x5 = some (r, o_states, o_all, o_refused, o_past) → va_P D vwCl (ww_X8_range cI cM a_this a_this_all a_this_past a_this_refused a_this_box a_this_row a_this_text a_this_numbers a_this_before v_states v_empty v_cut v_rowMany v_taken v_found v_textLong v_at v_stopped v_all v_refused v_past) H → va_D A (ww_X8_range cI cM a_this a_this_all a_this_past a_this_refused a_this_box a_this_row a_this_text a_this_numbers a_this_before v_states v_empty v_cut v_rowMany v_taken v_found v_textLong v_at v_stopped v_all v_refused v_past) → va_S A s.heap H locs → lv_has ls 7 [(0, .ref a_this), (1, .int x1), (4, .int x4), (5, .int x5)] → W p l e rm_X8_range s m args below meth c H locs 0 0 (MQ below (g_QI D (g_tys cI cM) A (ww_X8_range cI cM a_this a_this_all a_this_past a_this_refused a_this_box a_this_row a_this_text a_this_numbers a_this_before o_states v_empty v_cut v_rowMany v_taken v_found v_textLong v_at v_stopped o_all o_refused o_past) r) args s 0 0 A) (F0 m 66 ls []) := by
  obtain ⟨hx, hb, hr, hml, hown, hts, hlocks⟩ := id C0
  intro v_states v_all v_refused v_past x1 x4 x5 H locs ls hf hP hD hS hl
  unfold f_X8_range_C66 at hf
  refine lv_iload hx hb dX8_range_66 (lv_at hl 3 rfl) ?_
  refine lv_aload_n hx hb dX8_range_68 rfl (lv_at hl 0 rfl) ?_
  obtain ⟨r69, hg69, hf⟩ := o_b1_go hf
  refine g_callVi (wn := (ww_X8_range cI cM a_this a_this_all a_this_past a_this_refused a_this_box a_this_row a_this_text a_this_numbers a_this_before v_states v_empty v_cut v_rowMany v_taken v_found v_textLong v_at v_stopped v_all v_refused v_past)) (rest := [.int x5]) ⟨hx, hb, hml, hown, hts⟩ (c_X8_rules l D cI cM a_this a_this_all a_this_past a_this_refused a_this_box a_this_row a_this_text a_this_numbers a_this_before H.size v_states v_empty v_cut v_rowMany v_taken v_found v_textLong v_at v_stopped v_all hg69) (cwV 0 hts gX8_range_X8_rules rfl rfl rfl (by decide +kernel) ⟨Nat.le_of_ble_eq_true rfl, Nat.le_of_ble_eq_true rfl⟩) hK hP hD hS hA [0, 1] [2, 3] [2, 3, 0, 1] rfl rfl rfl rfl rfl rfl (by decide) rfl rfl rfl hl.1 rfl (Nat.le_of_ble_eq_true rfl) dX8_range_69 (fun H locs hP hD hS => ?_)
  refine lv_icmp_ge (tgt := 147) hx hb dX8_range_72 (by decide) (fun c72 => ?_) (fun c72 => ?_)
  · replace hf := o_t c72 hf
    refine lv_iload hx hb dX8_range_147 (lv_at hl 2 rfl) ?_
    obtain ⟨q0, y0⟩ := o_rp hf
    obtain ⟨q1, y1⟩ := o_rp y0
    obtain ⟨q2, y2⟩ := o_rp y1
    obtain ⟨q3, y3⟩ := o_rp y2
    have q4 := Option.some.inj y3
    subst q0 q1 q2 q3 q4
    exact g_iret hx hb hr hlocks hP hD hK hS dX8_range_149
  · replace hf := o_f c72 hf
    refine lv_aload_n hx hb dX8_range_75 rfl (lv_at hl 0 rfl) ?_
    refine lv_iload hx hb dX8_range_76 (lv_at hl 3 rfl) ?_
    refine lv_iconst (v := 0) hx hb dX8_range_78 (by decide) ?_
    obtain ⟨r79, hg79, hf⟩ := o_b1_go hf
    refine g_callVi (wn := (ww_X8_range cI cM a_this a_this_all a_this_past a_this_refused a_this_box a_this_row a_this_text a_this_numbers a_this_before v_states v_empty v_cut v_rowMany v_taken v_found v_textLong v_at v_stopped v_all v_refused v_past)) (rest := []) ⟨hx, hb, hml, hown, hts⟩ (c_X8_ruleAt l D cI cM a_this a_this_all a_this_past a_this_refused a_this_box a_this_row a_this_text a_this_numbers a_this_before H.size v_states v_empty v_cut v_rowMany v_taken v_found v_textLong v_at v_stopped v_all hg79) (cwV 2 hts gX8_range_X8_ruleAt rfl rfl rfl (by decide +kernel) ⟨Nat.le_of_ble_eq_true rfl, Nat.le_of_ble_eq_true rfl⟩) hK hP hD hS hA [0, 1] [2, 3] [2, 3, 0, 1] rfl rfl rfl rfl rfl rfl (by decide) rfl rfl rfl hl.1 rfl (Nat.le_of_ble_eq_true rfl) dX8_range_79 (fun H locs hP hD hS => ?_)
    refine lv_iconst (v := 3) hx hb dX8_range_82 (by decide) ?_
    refine lv_icmp_ge (tgt := 101) hx hb dX8_range_83 (by decide) (fun c83 => ?_) (fun c83 => ?_)
    · replace hf := o_t c83 hf
      exact w_X8_range_B101 C0 hA hK k66 hk66 v_states v_all v_refused v_past x1 x4 x5 H locs ls hf hP hD hS (lv_sub hl [0, 1, 2, 3] rfl)
    · replace hf := o_f c83 hf
      refine lv_aload_n hx hb dX8_range_86 rfl (lv_at hl 0 rfl) ?_
      refine lv_iload hx hb dX8_range_87 (lv_at hl 3 rfl) ?_
      refine lv_iconst (v := 3) hx hb dX8_range_89 (by decide) ?_
      obtain ⟨r90, hg90, hf⟩ := o_b1_go hf
      refine g_callVi (wn := (ww_X8_range cI cM a_this a_this_all a_this_past a_this_refused a_this_box a_this_row a_this_text a_this_numbers a_this_before v_states v_empty v_cut v_rowMany v_taken v_found v_textLong v_at v_stopped v_all v_refused v_past)) (rest := []) ⟨hx, hb, hml, hown, hts⟩ (c_X8_ruleAt l D cI cM a_this a_this_all a_this_past a_this_refused a_this_box a_this_row a_this_text a_this_numbers a_this_before H.size v_states v_empty v_cut v_rowMany v_taken v_found v_textLong v_at v_stopped v_all hg90) (cwV 2 hts gX8_range_X8_ruleAt rfl rfl rfl (by decide +kernel) ⟨Nat.le_of_ble_eq_true rfl, Nat.le_of_ble_eq_true rfl⟩) hK hP hD hS hA [0, 1] [2, 3] [2, 3, 0, 1] rfl rfl rfl rfl rfl rfl (by decide) rfl rfl rfl hl.1 rfl (Nat.le_of_ble_eq_true rfl) dX8_range_90 (fun H locs hP hD hS => ?_)
      refine lv_iload_n hx hb dX8_range_93 rfl (lv_at hl 1 rfl) ?_
      refine lv_icmp_ne (tgt := 101) hx hb dX8_range_94 (by decide) (fun c94 => ?_) (fun c94 => ?_)
      · replace hf := o_f c94 hf
        exact w_X8_range_B101 C0 hA hK k66 hk66 v_states v_all v_refused v_past x1 x4 x5 H locs ls hf hP hD hS (lv_sub hl [0, 1, 2, 3] rfl)
      · replace hf := o_t c94 hf
        refine lv_iconst (v := 1) hx hb dX8_range_97 (by decide) ?_
        refine lv_goto (tgt := 102) hx hb dX8_range_98 (by decide) ?_
        exact w_X8_range_B102 C0 hA hK k66 hk66 v_states v_all v_refused v_past x1 x4 x5 1 H locs ls hf hP hD hS (lv_sub hl [0, 1, 2, 3] rfl)
set_option maxHeartbeats 4000000 in
set_option maxRecDepth 100000 in
theorem w_X8_range_L66 {p : Program} {l : Launch} {e : Env} {s : State} {m : MethodId} {args : Array Value} {below : List Frame} {meth : Method} {c : Code} {D : va_G} {cI cM : ClassId} {A : Nat → Prop} {a_this a_this_all a_this_past a_this_refused a_this_box a_this_row a_this_text a_this_numbers a_this_before : Nat} {v_empty : Int32} {v_cut : Int32} {v_rowMany : Int32} {v_taken : Int32} {v_found : Int32} {v_textLong : Int32} {v_at : Int32} {v_stopped : Int32} {N : Nat} {r : Int32} {o_states : Int32} {o_all : Nat → Int32} {o_refused : Nat → Int32} {o_past : Nat → Int32} (C0 : g_cx cX8_range (some .int) 7 RX8 wsX8_range p s m args meth c) (hA : ∀ q, s.heap.size ≤ q → A q) (hK : va_K D vwCl (g_tys cI cM) s) : ∀ n : Nat, ∀ (v_states : Int32) (v_all : Nat → Int32) (v_refused : Nat → Int32) (v_past : Nat → Int32) (x1 : Int32) (x4 : Int32) (x5 : Int32) (H : Heap) (locs : List Loc) (ls : Array Slot), f_X8_range_L66 N n v_states v_all v_refused v_past x1 x4 x5 = some (r, o_states, o_all, o_refused, o_past) → va_P D vwCl (ww_X8_range cI cM a_this a_this_all a_this_past a_this_refused a_this_box a_this_row a_this_text a_this_numbers a_this_before v_states v_empty v_cut v_rowMany v_taken v_found v_textLong v_at v_stopped v_all v_refused v_past) H → va_D A (ww_X8_range cI cM a_this a_this_all a_this_past a_this_refused a_this_box a_this_row a_this_text a_this_numbers a_this_before v_states v_empty v_cut v_rowMany v_taken v_found v_textLong v_at v_stopped v_all v_refused v_past) → va_S A s.heap H locs → lv_has ls 7 [(0, .ref a_this), (1, .int x1), (4, .int x4), (5, .int x5)] → W p l e rm_X8_range s m args below meth c H locs 0 0 (MQ below (g_QI D (g_tys cI cM) A (ww_X8_range cI cM a_this a_this_all a_this_past a_this_refused a_this_box a_this_row a_this_text a_this_numbers a_this_before o_states v_empty v_cut v_rowMany v_taken v_found v_textLong v_at v_stopped o_all o_refused o_past) r) args s 0 0 A) (F0 m 66 ls []) := by
  intro n
  induction n with
  | zero =>
    intro v_states v_all v_refused v_past x1 x4 x5 H locs ls hf
    exact absurd hf (fun h => nomatch h)
  | succ n ih =>
    intro v_states v_all v_refused v_past x1 x4 x5 H locs ls hf
    exact w_X8_range_C66 C0 hA hK _ ih v_states v_all v_refused v_past x1 x4 x5 H locs ls hf
def f_X8_range (N : Nat) (v_states : Int32) (v_all : Nat → Int32) (v_refused : Nat → Int32) (v_past : Nat → Int32) (x1 : Int32) (x2 : Int32) (x3 : Int32) : Option (Int32 × Int32 × (Nat → Int32) × (Nat → Int32) × (Nat → Int32)) :=
  o_b1 (f_X8_isUnknown v_all x1) (fun (r2 : Int32) =>
  if r2 = 0 then
    f_X8_range_B27 N v_states v_all v_refused v_past
  else
    o_b1 (f_X8_isPlace x2) (fun (r9 : Int32) =>
    if r9 = 0 then
      f_X8_range_B27 N v_states v_all v_refused v_past
    else
      o_b1 (f_X8_isPlace x3) (fun (r16 : Int32) =>
      if r16 = 0 then
        f_X8_range_B27 N v_states v_all v_refused v_past
      else
        if x2 ≤ x3 then
          o_b2 (f_X8_keep N v_all v_states v_past) (fun (v_states_35 : Int32) (v_past_35 : Nat → Int32) =>
          o_in (1 + (2 * x1)) 38 (
          o_in (2 + (2 * x1)) 38 (
          f_X8_range_L66 N N v_states_35 (upd (upd v_all (1 + (2 * x1)).toNatClampNeg x2) (2 + (2 * x1)).toNatClampNeg x3) v_refused v_past_35 x1 0 0)))
        else
          f_X8_range_B27 N v_states v_all v_refused v_past)))
set_option maxHeartbeats 4000000 in
set_option maxRecDepth 100000 in
theorem w_X8_range_B0 {p : Program} {l : Launch} {e : Env} {s : State} {m : MethodId} {args : Array Value} {below : List Frame} {meth : Method} {c : Code} {D : va_G} {cI cM : ClassId} {A : Nat → Prop} {a_this a_this_all a_this_past a_this_refused a_this_box a_this_row a_this_text a_this_numbers a_this_before : Nat} {v_empty : Int32} {v_cut : Int32} {v_rowMany : Int32} {v_taken : Int32} {v_found : Int32} {v_textLong : Int32} {v_at : Int32} {v_stopped : Int32} {N : Nat} {r : Int32} {o_states : Int32} {o_all : Nat → Int32} {o_refused : Nat → Int32} {o_past : Nat → Int32} (C0 : g_cx cX8_range (some .int) 7 RX8 wsX8_range p s m args meth c) (hA : ∀ q, s.heap.size ≤ q → A q) (hK : va_K D vwCl (g_tys cI cM) s) : ∀ (v_states : Int32) (v_all : Nat → Int32) (v_refused : Nat → Int32) (v_past : Nat → Int32) (x1 : Int32) (x2 : Int32) (x3 : Int32) (H : Heap) (locs : List Loc) (ls : Array Slot), f_X8_range N v_states v_all v_refused v_past x1 x2 x3 = some (r, o_states, o_all, o_refused, o_past) → va_P D vwCl (ww_X8_range cI cM a_this a_this_all a_this_past a_this_refused a_this_box a_this_row a_this_text a_this_numbers a_this_before v_states v_empty v_cut v_rowMany v_taken v_found v_textLong v_at v_stopped v_all v_refused v_past) H → va_D A (ww_X8_range cI cM a_this a_this_all a_this_past a_this_refused a_this_box a_this_row a_this_text a_this_numbers a_this_before v_states v_empty v_cut v_rowMany v_taken v_found v_textLong v_at v_stopped v_all v_refused v_past) → va_S A s.heap H locs → lv_has ls 7 [(0, .ref a_this), (1, .int x1), (2, .int x2), (3, .int x3)] → W p l e rm_X8_range s m args below meth c H locs 0 0 (MQ below (g_QI D (g_tys cI cM) A (ww_X8_range cI cM a_this a_this_all a_this_past a_this_refused a_this_box a_this_row a_this_text a_this_numbers a_this_before o_states v_empty v_cut v_rowMany v_taken v_found v_textLong v_at v_stopped o_all o_refused o_past) r) args s 0 0 A) (F0 m 0 ls []) := by
  obtain ⟨hx, hb, hr, hml, hown, hts, hlocks⟩ := id C0
  intro v_states v_all v_refused v_past x1 x2 x3 H locs ls hf hP hD hS hl
  unfold f_X8_range at hf
  refine lv_aload_n hx hb dX8_range_0 rfl (lv_at hl 0 rfl) ?_
  refine lv_iload_n hx hb dX8_range_1 rfl (lv_at hl 1 rfl) ?_
  obtain ⟨r2, hg2, hf⟩ := o_b1_go hf
  refine g_callVi (wn := (ww_X8_range cI cM a_this a_this_all a_this_past a_this_refused a_this_box a_this_row a_this_text a_this_numbers a_this_before v_states v_empty v_cut v_rowMany v_taken v_found v_textLong v_at v_stopped v_all v_refused v_past)) (rest := []) ⟨hx, hb, hml, hown, hts⟩ (c_X8_isUnknown l D cI cM a_this a_this_all a_this_past a_this_refused a_this_box a_this_row a_this_text a_this_numbers a_this_before H.size v_states v_empty v_cut v_rowMany v_taken v_found v_textLong v_at v_stopped v_all hg2) (cwV 1 hts gX8_range_X8_isUnknown rfl rfl rfl (by decide +kernel) ⟨Nat.le_of_ble_eq_true rfl, Nat.le_of_ble_eq_true rfl⟩) hK hP hD hS hA [0, 1] [2, 3] [2, 3, 0, 1] rfl rfl rfl rfl rfl rfl (by decide) rfl rfl rfl hl.1 rfl (Nat.le_of_ble_eq_true rfl) dX8_range_2 (fun H locs hP hD hS => ?_)
  refine lv_if_eq (tgt := 27) hx hb dX8_range_5 (by decide) (fun c5 => ?_) (fun c5 => ?_)
  · replace hf := o_t c5 hf
    exact w_X8_range_B27 C0 hA hK v_states v_all v_refused v_past H locs ls hf hP hD hS (lv_sub hl [0] rfl)
  · replace hf := o_f c5 hf
    refine lv_iload_n hx hb dX8_range_8 rfl (lv_at hl 2 rfl) ?_
    obtain ⟨r9, hg9, hf⟩ := o_b1_go hf
    refine g_callSi (rest := []) ⟨hx, hb, hml, hown, hts⟩ (c_X8_isPlace l hg9) (va_cwS 1 hts gX8_range_X8_isPlace rfl rfl rfl (by decide +kernel) ⟨Nat.le_of_ble_eq_true rfl, Nat.le_of_ble_eq_true rfl⟩) rfl hl.1 rfl (Nat.le_of_ble_eq_true rfl) dX8_range_9 ?_
    refine lv_if_eq (tgt := 27) hx hb dX8_range_12 (by decide) (fun c12 => ?_) (fun c12 => ?_)
    · replace hf := o_t c12 hf
      exact w_X8_range_B27 C0 hA hK v_states v_all v_refused v_past H locs ls hf hP hD hS (lv_sub hl [0] rfl)
    · replace hf := o_f c12 hf
      refine lv_iload_n hx hb dX8_range_15 rfl (lv_at hl 3 rfl) ?_
      obtain ⟨r16, hg16, hf⟩ := o_b1_go hf
      refine g_callSi (rest := []) ⟨hx, hb, hml, hown, hts⟩ (c_X8_isPlace l hg16) (va_cwS 1 hts gX8_range_X8_isPlace rfl rfl rfl (by decide +kernel) ⟨Nat.le_of_ble_eq_true rfl, Nat.le_of_ble_eq_true rfl⟩) rfl hl.1 rfl (Nat.le_of_ble_eq_true rfl) dX8_range_16 ?_
      refine lv_if_eq (tgt := 27) hx hb dX8_range_19 (by decide) (fun c19 => ?_) (fun c19 => ?_)
      · replace hf := o_t c19 hf
        exact w_X8_range_B27 C0 hA hK v_states v_all v_refused v_past H locs ls hf hP hD hS (lv_sub hl [0] rfl)
      · replace hf := o_f c19 hf
        refine lv_iload_n hx hb dX8_range_22 rfl (lv_at hl 3 rfl) ?_
        refine lv_iload_n hx hb dX8_range_23 rfl (lv_at hl 2 rfl) ?_
        refine lv_icmp_ge (tgt := 34) hx hb dX8_range_24 (by decide) (fun c24 => ?_) (fun c24 => ?_)
        · replace hf := o_t c24 hf
          refine lv_aload_n hx hb dX8_range_34 rfl (lv_at hl 0 rfl) ?_
          obtain ⟨v_states_35, v_past_35, hg35, hf⟩ := o_b2_go hf
          refine g_callVv (wn := (ww_X8_range cI cM a_this a_this_all a_this_past a_this_refused a_this_box a_this_row a_this_text a_this_numbers a_this_before v_states_35 v_empty v_cut v_rowMany v_taken v_found v_textLong v_at v_stopped v_all v_refused v_past_35)) (rest := []) ⟨hx, hb, hml, hown, hts⟩ (c_X8_keep l D cI cM a_this a_this_all a_this_past a_this_refused a_this_box a_this_row a_this_text a_this_numbers a_this_before H.size v_states v_empty v_cut v_rowMany v_taken v_found v_textLong v_at v_stopped v_all v_past hg35) (cwV 0 hts gX8_range_X8_keep rfl rfl rfl (by decide +kernel) ⟨Nat.le_of_ble_eq_true rfl, Nat.le_of_ble_eq_true rfl⟩) hK hP hD hS hA [0, 1, 3] [2] [1, 2, 0, 3] rfl rfl rfl rfl rfl rfl (by decide) rfl rfl rfl hl.1 rfl (Nat.le_of_ble_eq_true rfl) dX8_range_35 (fun H locs hP hD hS => ?_)
          refine lv_aload_n hx hb dX8_range_38 rfl (lv_at hl 0 rfl) ?_
          refine va_get (D := D) (ci := 6) (v := .ref a_this_all) (C := RX8) (T := TX8) (N := 17) hx hb hts (fun _ h => (List.mem_cons_of_mem _ (List.mem_append_right _ h))) hown hK hP 0 rfl rfl 0 (by decide) (hts (.fieldLink RX8 7 "FloatBoxesModel" "all" "[I") (List.mem_cons_of_mem _ (List.mem_append_left _ (List.mem_append_left _ (List.mem_of_getElem? (i := 1) rfl))))) (fun _ h9 => h9) rfl dX8_range_39 ?_
          refine lv_iconst (v := 1) hx hb dX8_range_42 (by decide) ?_
          refine lv_iconst (v := 2) hx hb dX8_range_43 (by decide) ?_
          refine lv_iload_n hx hb dX8_range_44 rfl (lv_at hl 1 rfl) ?_
          refine lv_imul hx hb dX8_range_45 ?_
          refine lv_iadd hx hb dX8_range_46 ?_
          refine lv_iload_n hx hb dX8_range_47 rfl (lv_at hl 2 rfl) ?_
          obtain ⟨h48, hf⟩ := o_in_go hf
          refine va_iast hx hb hK hP hD hS 1 0 rfl rfl h48 dX8_range_48 (fun H locs hP hD hS => ?_)
          replace hP : va_P D vwCl (ww_X8_range cI cM a_this a_this_all a_this_past a_this_refused a_this_box a_this_row a_this_text a_this_numbers a_this_before v_states_35 v_empty v_cut v_rowMany v_taken v_found v_textLong v_at v_stopped (upd v_all (1 + (2 * x1)).toNatClampNeg x2) v_refused v_past_35) H := hP
          replace hD : va_D A (ww_X8_range cI cM a_this a_this_all a_this_past a_this_refused a_this_box a_this_row a_this_text a_this_numbers a_this_before v_states_35 v_empty v_cut v_rowMany v_taken v_found v_textLong v_at v_stopped (upd v_all (1 + (2 * x1)).toNatClampNeg x2) v_refused v_past_35) := hD
          refine lv_aload_n hx hb dX8_range_49 rfl (lv_at hl 0 rfl) ?_
          refine va_get (D := D) (ci := 6) (v := .ref a_this_all) (C := RX8) (T := TX8) (N := 17) hx hb hts (fun _ h => (List.mem_cons_of_mem _ (List.mem_append_right _ h))) hown hK hP 0 rfl rfl 0 (by decide) (hts (.fieldLink RX8 7 "FloatBoxesModel" "all" "[I") (List.mem_cons_of_mem _ (List.mem_append_left _ (List.mem_append_left _ (List.mem_of_getElem? (i := 1) rfl))))) (fun _ h9 => h9) rfl dX8_range_50 ?_
          refine lv_iconst (v := 2) hx hb dX8_range_53 (by decide) ?_
          refine lv_iconst (v := 2) hx hb dX8_range_54 (by decide) ?_
          refine lv_iload_n hx hb dX8_range_55 rfl (lv_at hl 1 rfl) ?_
          refine lv_imul hx hb dX8_range_56 ?_
          refine lv_iadd hx hb dX8_range_57 ?_
          refine lv_iload_n hx hb dX8_range_58 rfl (lv_at hl 3 rfl) ?_
          obtain ⟨h59, hf⟩ := o_in_go hf
          refine va_iast hx hb hK hP hD hS 1 0 rfl rfl h59 dX8_range_59 (fun H locs hP hD hS => ?_)
          replace hP : va_P D vwCl (ww_X8_range cI cM a_this a_this_all a_this_past a_this_refused a_this_box a_this_row a_this_text a_this_numbers a_this_before v_states_35 v_empty v_cut v_rowMany v_taken v_found v_textLong v_at v_stopped (upd (upd v_all (1 + (2 * x1)).toNatClampNeg x2) (2 + (2 * x1)).toNatClampNeg x3) v_refused v_past_35) H := hP
          replace hD : va_D A (ww_X8_range cI cM a_this a_this_all a_this_past a_this_refused a_this_box a_this_row a_this_text a_this_numbers a_this_before v_states_35 v_empty v_cut v_rowMany v_taken v_found v_textLong v_at v_stopped (upd (upd v_all (1 + (2 * x1)).toNatClampNeg x2) (2 + (2 * x1)).toNatClampNeg x3) v_refused v_past_35) := hD
          refine lv_iconst (v := 0) hx hb dX8_range_60 (by decide) ?_
          refine lv_istore (lv' := [(4, .int 0), (0, .ref a_this), (1, .int x1), (2, .int x2), (3, .int x3)]) hx hb dX8_range_61 hl (by decide) rfl (fun ls hl => ?_)
          refine lv_iconst (v := 0) hx hb dX8_range_63 (by decide) ?_
          refine lv_istore (lv' := [(5, .int 0), (4, .int 0), (0, .ref a_this), (1, .int x1), (2, .int x2), (3, .int x3)]) hx hb dX8_range_64 hl (by decide) rfl (fun ls hl => ?_)
          exact w_X8_range_L66 C0 hA hK N v_states_35 (upd (upd v_all (1 + (2 * x1)).toNatClampNeg x2) (2 + (2 * x1)).toNatClampNeg x3) v_refused v_past_35 x1 0 0 H locs ls hf hP hD hS (lv_sub hl [2, 3, 1, 0] rfl)
        · replace hf := o_f c24 hf
          exact w_X8_range_B27 C0 hA hK v_states v_all v_refused v_past H locs ls hf hP hD hS (lv_sub hl [0] rfl)
set_option maxHeartbeats 4000000 in
set_option maxRecDepth 100000 in
theorem c_X8_range (l : Launch) (D : va_G) (cI cM : ClassId) (a_this a_this_all a_this_past a_this_refused a_this_box a_this_row a_this_text a_this_numbers a_this_before : Nat) (sz : Nat) (v_states : Int32) (v_empty : Int32) (v_cut : Int32) (v_rowMany : Int32) (v_taken : Int32) (v_found : Int32) (v_textLong : Int32) (v_at : Int32) (v_stopped : Int32) (v_all : Nat → Int32) (v_refused : Nat → Int32) (v_past : Nat → Int32) {N : Nat} {x1 : Int32} {x2 : Int32} {x3 : Int32} {r : Int32} {o_states : Int32} {o_all : Nat → Int32} {o_refused : Nat → Int32} {o_past : Nat → Int32} (hf : f_X8_range N v_states v_all v_refused v_past x1 x2 x3 = some (r, o_states, o_all, o_refused, o_past)) : Met l yX8_range wsX8_range rm_X8_range (g_Pc D (g_tys cI cM) (ww_X8_range cI cM a_this a_this_all a_this_past a_this_refused a_this_box a_this_row a_this_text a_this_numbers a_this_before v_states v_empty v_cut v_rowMany v_taken v_found v_textLong v_at v_stopped v_all v_refused v_past) sz [.ref a_this, .int x1, .int x2, .int x3]) (g_QI D (g_tys cI cM) (va_A (ww_X8_range cI cM a_this a_this_all a_this_past a_this_refused a_this_box a_this_row a_this_text a_this_numbers a_this_before v_states v_empty v_cut v_rowMany v_taken v_found v_textLong v_at v_stopped v_all v_refused v_past) sz) (ww_X8_range cI cM a_this a_this_all a_this_past a_this_refused a_this_box a_this_row a_this_text a_this_numbers a_this_before o_states v_empty v_cut v_rowMany v_taken v_found v_textLong v_at v_stopped o_all o_refused o_past) r) 0 0 (va_A (ww_X8_range cI cM a_this a_this_all a_this_past a_this_refused a_this_box a_this_row a_this_text a_this_numbers a_this_before v_states v_empty v_cut v_rowMany v_taken v_found v_textLong v_at v_stopped v_all v_refused v_past) sz) := by
  refine g_met (cc := cX8_range) (maxL := 7) (ret := (some .int)) (Qc := fun D A => g_QI D (g_tys cI cM) A (ww_X8_range cI cM a_this a_this_all a_this_past a_this_refused a_this_box a_this_row a_this_text a_this_numbers a_this_before o_states v_empty v_cut v_rowMany v_taken v_found v_textLong v_at v_stopped o_all o_refused o_past) r) (by decide) rfl ?_
  intro p e s m below meth c A C0 hA hK hP hD
  have hl := lv_entry ([.ref a_this, .int x1, .int x2, .int x3]) (n := 7) (Nat.le_of_ble_eq_true rfl)
  rw [lg_entry_eq]
  generalize (lg_sl ([.ref a_this, .int x1, .int x2, .int x3]) ++ List.replicate (7 - (lg_sl ([.ref a_this, .int x1, .int x2, .int x3])).length) Slot.unset).toArray = ls at hl ⊢
  have hl : lv_has ls 7 [(0, .ref a_this), (1, .int x1), (2, .int x2), (3, .int x3)] := hl
  exact w_X8_range_B0 C0 hA hK v_states v_all v_refused v_past x1 x2 x3 s.heap [] ls hf hP hD va_S.rf (lv_sub hl [0, 1, 2, 3] rfl)
/-! FloatBoxesModel.canRule(IIII)I -/
abbrev rm_X8_canRule : Room := { frames := 2, cells := 0, slots := 0, locals := 46 }
abbrev ww_X8_canRule (cI cM : ClassId) (a_this a_this_all a_this_past a_this_refused a_this_box a_this_row a_this_text a_this_numbers a_this_before : Nat) (v_states : Int32) (v_empty : Int32) (v_cut : Int32) (v_rowMany : Int32) (v_taken : Int32) (v_found : Int32) (v_textLong : Int32) (v_at : Int32) (v_stopped : Int32) (v_all : Nat → Int32) : va_W := [(a_this, .inr (6, [.ref a_this_all, .ref a_this_past, .int v_states, .ref a_this_refused, .ref a_this_box, .int v_empty, .int v_cut, .ref a_this_row, .int v_rowMany, .int v_taken, .int v_found, .ref a_this_text, .int v_textLong, .int v_at, .ref a_this_numbers, .int v_stopped, .ref a_this_before])), (a_this_all, .inl (cI, 38, .inl v_all))]
def f_X8_canRule_B24 (v_all : Nat → Int32) (x1 : Int32) (x2 : Int32) (x3 : Int32) (z0 : Int32) : Option (Int32) :=
  o_b1 (f_X8_in x1.toInt64 0 5) (fun (r32 : Int32) =>
  if r32 = 0 then
    some ((-2139095050))
  else
    o_b1 (f_X8_isUnknown v_all x2) (fun (r40 : Int32) =>
    if r40 = 0 then
      some ((-2139095050))
    else
      o_b1 (f_X8_isUnknown v_all x3) (fun (r48 : Int32) =>
      if r48 = 0 then
        some ((-2139095050))
      else
        if z0 = 0 then
          some ((-2139095050))
        else
          o_b1 (f_X8_rules v_all) (fun (r65 : Int32) =>
          if r65 = 6 then
            some ((-2139095052))
          else
            some 0))))
set_option maxHeartbeats 4000000 in
set_option maxRecDepth 100000 in
theorem w_X8_canRule_B24 {p : Program} {l : Launch} {e : Env} {s : State} {m : MethodId} {args : Array Value} {below : List Frame} {meth : Method} {c : Code} {D : va_G} {cI cM : ClassId} {A : Nat → Prop} {a_this a_this_all a_this_past a_this_refused a_this_box a_this_row a_this_text a_this_numbers a_this_before : Nat} {v_states : Int32} {v_empty : Int32} {v_cut : Int32} {v_rowMany : Int32} {v_taken : Int32} {v_found : Int32} {v_textLong : Int32} {v_at : Int32} {v_stopped : Int32} {v_all : Nat → Int32} {r : Int32} (C0 : g_cx cX8_canRule (some .int) 6 RX8 wsX8_canRule p s m args meth c) (hA : ∀ q, s.heap.size ≤ q → A q) (hK : va_K D vwCl (g_tys cI cM) s) : ∀ (x1 : Int32) (x2 : Int32) (x3 : Int32) (z0 : Int32) (H : Heap) (locs : List Loc) (ls : Array Slot), f_X8_canRule_B24 v_all x1 x2 x3 z0 = some r → va_P D vwCl (ww_X8_canRule cI cM a_this a_this_all a_this_past a_this_refused a_this_box a_this_row a_this_text a_this_numbers a_this_before v_states v_empty v_cut v_rowMany v_taken v_found v_textLong v_at v_stopped v_all) H → va_D A (ww_X8_canRule cI cM a_this a_this_all a_this_past a_this_refused a_this_box a_this_row a_this_text a_this_numbers a_this_before v_states v_empty v_cut v_rowMany v_taken v_found v_textLong v_at v_stopped v_all) → va_S A s.heap H locs → lv_has ls 6 [(0, .ref a_this), (1, .int x1), (2, .int x2), (3, .int x3)] → W p l e rm_X8_canRule s m args below meth c H locs 0 0 (MQ below (g_QI D (g_tys cI cM) A (ww_X8_canRule cI cM a_this a_this_all a_this_past a_this_refused a_this_box a_this_row a_this_text a_this_numbers a_this_before v_states v_empty v_cut v_rowMany v_taken v_found v_textLong v_at v_stopped v_all) r) args s 0 0 A) (F0 m 24 ls [.int z0]) := by
  obtain ⟨hx, hb, hr, hml, hown, hts, hlocks⟩ := id C0
  intro x1 x2 x3 z0 H locs ls hf hP hD hS hl
  unfold f_X8_canRule_B24 at hf
  refine lv_istore (lv' := [(5, .int z0), (0, .ref a_this), (1, .int x1), (2, .int x2), (3, .int x3)]) hx hb dX8_canRule_24 hl (by decide) rfl (fun ls hl => ?_)
  refine lv_iload_n hx hb dX8_canRule_26 rfl (lv_at hl 2 rfl) ?_
  refine lv_i2l hx hb dX8_canRule_27 rfl ?_
  refine lv_lconst (v := 0) hx hb dX8_canRule_28 (by decide) ?_
  refine lv_ldc2 (v := 5) hx hb hown (hts (.constantLong RX8 103 (5)) (List.mem_cons_of_mem _ (List.mem_append_left _ (List.mem_of_getElem? (i := 0) rfl)))) dX8_canRule_29 ?_
  obtain ⟨r32, hg32, hf⟩ := o_b1_go hf
  refine g_callSi (rest := []) ⟨hx, hb, hml, hown, hts⟩ (c_X8_in l hg32) (va_cwS 3 hts gX8_canRule_X8_in rfl rfl rfl (by decide +kernel) ⟨Nat.le_of_ble_eq_true rfl, Nat.le_of_ble_eq_true rfl⟩) rfl hl.1 rfl (Nat.le_of_ble_eq_true rfl) dX8_canRule_32 ?_
  refine lv_if_eq (tgt := 59) hx hb dX8_canRule_35 (by decide) (fun c35 => ?_) (fun c35 => ?_)
  · replace hf := o_t c35 hf
    refine lv_ldc (v := (-2139095050)) hx hb hown (hts (.constant RX8 42 (-2139095050)) (List.mem_cons_of_mem _ (List.mem_append_left _ (List.mem_of_getElem? (i := 1) rfl)))) dX8_canRule_59 ?_
    refine lv_goto (tgt := 79) hx hb dX8_canRule_61 (by decide) ?_
    have q0 := Option.some.inj hf
    subst q0
    exact g_iret hx hb hr hlocks hP hD hK hS dX8_canRule_79
  · replace hf := o_f c35 hf
    refine lv_aload_n hx hb dX8_canRule_38 rfl (lv_at hl 1 rfl) ?_
    refine lv_iload_n hx hb dX8_canRule_39 rfl (lv_at hl 3 rfl) ?_
    obtain ⟨r40, hg40, hf⟩ := o_b1_go hf
    refine g_callVi (wn := (ww_X8_canRule cI cM a_this a_this_all a_this_past a_this_refused a_this_box a_this_row a_this_text a_this_numbers a_this_before v_states v_empty v_cut v_rowMany v_taken v_found v_textLong v_at v_stopped v_all)) (rest := []) ⟨hx, hb, hml, hown, hts⟩ (c_X8_isUnknown l D cI cM a_this a_this_all a_this_past a_this_refused a_this_box a_this_row a_this_text a_this_numbers a_this_before H.size v_states v_empty v_cut v_rowMany v_taken v_found v_textLong v_at v_stopped v_all hg40) (cwV 1 hts gX8_canRule_X8_isUnknown rfl rfl rfl (by decide +kernel) ⟨Nat.le_of_ble_eq_true rfl, Nat.le_of_ble_eq_true rfl⟩) hK hP hD hS hA [0, 1] [] [0, 1] rfl rfl rfl rfl rfl rfl (by decide) rfl rfl rfl hl.1 rfl (Nat.le_of_ble_eq_true rfl) dX8_canRule_40 (fun H locs hP hD hS => ?_)
    refine lv_if_eq (tgt := 59) hx hb dX8_canRule_43 (by decide) (fun c43 => ?_) (fun c43 => ?_)
    · replace hf := o_t c43 hf
      refine lv_ldc (v := (-2139095050)) hx hb hown (hts (.constant RX8 42 (-2139095050)) (List.mem_cons_of_mem _ (List.mem_append_left _ (List.mem_of_getElem? (i := 1) rfl)))) dX8_canRule_59 ?_
      refine lv_goto (tgt := 79) hx hb dX8_canRule_61 (by decide) ?_
      have q0 := Option.some.inj hf
      subst q0
      exact g_iret hx hb hr hlocks hP hD hK hS dX8_canRule_79
    · replace hf := o_f c43 hf
      refine lv_aload_n hx hb dX8_canRule_46 rfl (lv_at hl 1 rfl) ?_
      refine lv_iload_n hx hb dX8_canRule_47 rfl (lv_at hl 4 rfl) ?_
      obtain ⟨r48, hg48, hf⟩ := o_b1_go hf
      refine g_callVi (wn := (ww_X8_canRule cI cM a_this a_this_all a_this_past a_this_refused a_this_box a_this_row a_this_text a_this_numbers a_this_before v_states v_empty v_cut v_rowMany v_taken v_found v_textLong v_at v_stopped v_all)) (rest := []) ⟨hx, hb, hml, hown, hts⟩ (c_X8_isUnknown l D cI cM a_this a_this_all a_this_past a_this_refused a_this_box a_this_row a_this_text a_this_numbers a_this_before H.size v_states v_empty v_cut v_rowMany v_taken v_found v_textLong v_at v_stopped v_all hg48) (cwV 1 hts gX8_canRule_X8_isUnknown rfl rfl rfl (by decide +kernel) ⟨Nat.le_of_ble_eq_true rfl, Nat.le_of_ble_eq_true rfl⟩) hK hP hD hS hA [0, 1] [] [0, 1] rfl rfl rfl rfl rfl rfl (by decide) rfl rfl rfl hl.1 rfl (Nat.le_of_ble_eq_true rfl) dX8_canRule_48 (fun H locs hP hD hS => ?_)
      refine lv_if_eq (tgt := 59) hx hb dX8_canRule_51 (by decide) (fun c51 => ?_) (fun c51 => ?_)
      · replace hf := o_t c51 hf
        refine lv_ldc (v := (-2139095050)) hx hb hown (hts (.constant RX8 42 (-2139095050)) (List.mem_cons_of_mem _ (List.mem_append_left _ (List.mem_of_getElem? (i := 1) rfl)))) dX8_canRule_59 ?_
        refine lv_goto (tgt := 79) hx hb dX8_canRule_61 (by decide) ?_
        have q0 := Option.some.inj hf
        subst q0
        exact g_iret hx hb hr hlocks hP hD hK hS dX8_canRule_79
      · replace hf := o_f c51 hf
        refine lv_iload hx hb dX8_canRule_54 (lv_at hl 0 rfl) ?_
        refine lv_if_ne (tgt := 64) hx hb dX8_canRule_56 (by decide) (fun c56 => ?_) (fun c56 => ?_)
        · replace hf := o_f c56 hf
          refine lv_aload_n hx hb dX8_canRule_64 rfl (lv_at hl 1 rfl) ?_
          obtain ⟨r65, hg65, hf⟩ := o_b1_go hf
          refine g_callVi (wn := (ww_X8_canRule cI cM a_this a_this_all a_this_past a_this_refused a_this_box a_this_row a_this_text a_this_numbers a_this_before v_states v_empty v_cut v_rowMany v_taken v_found v_textLong v_at v_stopped v_all)) (rest := []) ⟨hx, hb, hml, hown, hts⟩ (c_X8_rules l D cI cM a_this a_this_all a_this_past a_this_refused a_this_box a_this_row a_this_text a_this_numbers a_this_before H.size v_states v_empty v_cut v_rowMany v_taken v_found v_textLong v_at v_stopped v_all hg65) (cwV 0 hts gX8_canRule_X8_rules rfl rfl rfl (by decide +kernel) ⟨Nat.le_of_ble_eq_true rfl, Nat.le_of_ble_eq_true rfl⟩) hK hP hD hS hA [0, 1] [] [0, 1] rfl rfl rfl rfl rfl rfl (by decide) rfl rfl rfl hl.1 rfl (Nat.le_of_ble_eq_true rfl) dX8_canRule_65 (fun H locs hP hD hS => ?_)
          refine lv_bipush (v := 6) hx hb dX8_canRule_68 (by decide) ?_
          refine lv_icmp_ne (tgt := 78) hx hb dX8_canRule_70 (by decide) (fun c70 => ?_) (fun c70 => ?_)
          · replace hf := o_f c70 hf
            refine lv_iconst (v := 0) hx hb dX8_canRule_78 (by decide) ?_
            have q0 := Option.some.inj hf
            subst q0
            exact g_iret hx hb hr hlocks hP hD hK hS dX8_canRule_79
          · replace hf := o_t c70 hf
            refine lv_ldc (v := (-2139095052)) hx hb hown (hts (.constant RX8 83 (-2139095052)) (List.mem_cons_of_mem _ (List.mem_append_left _ (List.mem_of_getElem? (i := 2) rfl)))) dX8_canRule_73 ?_
            refine lv_goto (tgt := 79) hx hb dX8_canRule_75 (by decide) ?_
            have q0 := Option.some.inj hf
            subst q0
            exact g_iret hx hb hr hlocks hP hD hK hS dX8_canRule_79
        · replace hf := o_t c56 hf
          refine lv_ldc (v := (-2139095050)) hx hb hown (hts (.constant RX8 42 (-2139095050)) (List.mem_cons_of_mem _ (List.mem_append_left _ (List.mem_of_getElem? (i := 1) rfl)))) dX8_canRule_59 ?_
          refine lv_goto (tgt := 79) hx hb dX8_canRule_61 (by decide) ?_
          have q0 := Option.some.inj hf
          subst q0
          exact g_iret hx hb hr hlocks hP hD hK hS dX8_canRule_79
def f_X8_canRule (v_all : Nat → Int32) (x1 : Int32) (x2 : Int32) (x3 : Int32) (x4 : Int32) : Option (Int32) :=
  if 3 ≤ x1 then
    if x4 = 0 then
      f_X8_canRule_B24 v_all x1 x2 x3 1
    else
      f_X8_canRule_B24 v_all x1 x2 x3 0
  else
    o_b1 (f_X8_isUnknown v_all x4) (fun (r8 : Int32) =>
    f_X8_canRule_B24 v_all x1 x2 x3 r8)
set_option maxHeartbeats 4000000 in
set_option maxRecDepth 100000 in
theorem w_X8_canRule_B0 {p : Program} {l : Launch} {e : Env} {s : State} {m : MethodId} {args : Array Value} {below : List Frame} {meth : Method} {c : Code} {D : va_G} {cI cM : ClassId} {A : Nat → Prop} {a_this a_this_all a_this_past a_this_refused a_this_box a_this_row a_this_text a_this_numbers a_this_before : Nat} {v_states : Int32} {v_empty : Int32} {v_cut : Int32} {v_rowMany : Int32} {v_taken : Int32} {v_found : Int32} {v_textLong : Int32} {v_at : Int32} {v_stopped : Int32} {v_all : Nat → Int32} {r : Int32} (C0 : g_cx cX8_canRule (some .int) 6 RX8 wsX8_canRule p s m args meth c) (hA : ∀ q, s.heap.size ≤ q → A q) (hK : va_K D vwCl (g_tys cI cM) s) : ∀ (x1 : Int32) (x2 : Int32) (x3 : Int32) (x4 : Int32) (H : Heap) (locs : List Loc) (ls : Array Slot), f_X8_canRule v_all x1 x2 x3 x4 = some r → va_P D vwCl (ww_X8_canRule cI cM a_this a_this_all a_this_past a_this_refused a_this_box a_this_row a_this_text a_this_numbers a_this_before v_states v_empty v_cut v_rowMany v_taken v_found v_textLong v_at v_stopped v_all) H → va_D A (ww_X8_canRule cI cM a_this a_this_all a_this_past a_this_refused a_this_box a_this_row a_this_text a_this_numbers a_this_before v_states v_empty v_cut v_rowMany v_taken v_found v_textLong v_at v_stopped v_all) → va_S A s.heap H locs → lv_has ls 6 [(0, .ref a_this), (1, .int x1), (2, .int x2), (3, .int x3), (4, .int x4)] → W p l e rm_X8_canRule s m args below meth c H locs 0 0 (MQ below (g_QI D (g_tys cI cM) A (ww_X8_canRule cI cM a_this a_this_all a_this_past a_this_refused a_this_box a_this_row a_this_text a_this_numbers a_this_before v_states v_empty v_cut v_rowMany v_taken v_found v_textLong v_at v_stopped v_all) r) args s 0 0 A) (F0 m 0 ls []) := by
  obtain ⟨hx, hb, hr, hml, hown, hts, hlocks⟩ := id C0
  intro x1 x2 x3 x4 H locs ls hf hP hD hS hl
  unfold f_X8_canRule at hf
  refine lv_iload_n hx hb dX8_canRule_0 rfl (lv_at hl 1 rfl) ?_
  refine lv_iconst (v := 3) hx hb dX8_canRule_1 (by decide) ?_
  refine lv_icmp_ge (tgt := 14) hx hb dX8_canRule_2 (by decide) (fun c2 => ?_) (fun c2 => ?_)
  · replace hf := o_t c2 hf
    refine lv_iload hx hb dX8_canRule_14 (lv_at hl 4 rfl) ?_
    refine lv_if_ne (tgt := 23) hx hb dX8_canRule_16 (by decide) (fun c16 => ?_) (fun c16 => ?_)
    · replace hf := o_f c16 hf
      refine lv_iconst (v := 0) hx hb dX8_canRule_23 (by decide) ?_
      exact w_X8_canRule_B24 C0 hA hK x1 x2 x3 0 H locs ls hf hP hD hS (lv_sub hl [0, 1, 2, 3] rfl)
    · replace hf := o_t c16 hf
      refine lv_iconst (v := 1) hx hb dX8_canRule_19 (by decide) ?_
      refine lv_goto (tgt := 24) hx hb dX8_canRule_20 (by decide) ?_
      exact w_X8_canRule_B24 C0 hA hK x1 x2 x3 1 H locs ls hf hP hD hS (lv_sub hl [0, 1, 2, 3] rfl)
  · replace hf := o_f c2 hf
    refine lv_aload_n hx hb dX8_canRule_5 rfl (lv_at hl 0 rfl) ?_
    refine lv_iload hx hb dX8_canRule_6 (lv_at hl 4 rfl) ?_
    obtain ⟨r8, hg8, hf⟩ := o_b1_go hf
    refine g_callVi (wn := (ww_X8_canRule cI cM a_this a_this_all a_this_past a_this_refused a_this_box a_this_row a_this_text a_this_numbers a_this_before v_states v_empty v_cut v_rowMany v_taken v_found v_textLong v_at v_stopped v_all)) (rest := []) ⟨hx, hb, hml, hown, hts⟩ (c_X8_isUnknown l D cI cM a_this a_this_all a_this_past a_this_refused a_this_box a_this_row a_this_text a_this_numbers a_this_before H.size v_states v_empty v_cut v_rowMany v_taken v_found v_textLong v_at v_stopped v_all hg8) (cwV 1 hts gX8_canRule_X8_isUnknown rfl rfl rfl (by decide +kernel) ⟨Nat.le_of_ble_eq_true rfl, Nat.le_of_ble_eq_true rfl⟩) hK hP hD hS hA [0, 1] [] [0, 1] rfl rfl rfl rfl rfl rfl (by decide) rfl rfl rfl hl.1 rfl (Nat.le_of_ble_eq_true rfl) dX8_canRule_8 (fun H locs hP hD hS => ?_)
    refine lv_goto (tgt := 24) hx hb dX8_canRule_11 (by decide) ?_
    exact w_X8_canRule_B24 C0 hA hK x1 x2 x3 r8 H locs ls hf hP hD hS (lv_sub hl [0, 1, 2, 3] rfl)
set_option maxHeartbeats 4000000 in
set_option maxRecDepth 100000 in
theorem c_X8_canRule (l : Launch) (D : va_G) (cI cM : ClassId) (a_this a_this_all a_this_past a_this_refused a_this_box a_this_row a_this_text a_this_numbers a_this_before : Nat) (sz : Nat) (v_states : Int32) (v_empty : Int32) (v_cut : Int32) (v_rowMany : Int32) (v_taken : Int32) (v_found : Int32) (v_textLong : Int32) (v_at : Int32) (v_stopped : Int32) (v_all : Nat → Int32) {x1 : Int32} {x2 : Int32} {x3 : Int32} {x4 : Int32} {r : Int32} (hf : f_X8_canRule v_all x1 x2 x3 x4 = some r) : Met l yX8_canRule wsX8_canRule rm_X8_canRule (g_Pc D (g_tys cI cM) (ww_X8_canRule cI cM a_this a_this_all a_this_past a_this_refused a_this_box a_this_row a_this_text a_this_numbers a_this_before v_states v_empty v_cut v_rowMany v_taken v_found v_textLong v_at v_stopped v_all) sz [.ref a_this, .int x1, .int x2, .int x3, .int x4]) (g_QI D (g_tys cI cM) (va_A (ww_X8_canRule cI cM a_this a_this_all a_this_past a_this_refused a_this_box a_this_row a_this_text a_this_numbers a_this_before v_states v_empty v_cut v_rowMany v_taken v_found v_textLong v_at v_stopped v_all) sz) (ww_X8_canRule cI cM a_this a_this_all a_this_past a_this_refused a_this_box a_this_row a_this_text a_this_numbers a_this_before v_states v_empty v_cut v_rowMany v_taken v_found v_textLong v_at v_stopped v_all) r) 0 0 (va_A (ww_X8_canRule cI cM a_this a_this_all a_this_past a_this_refused a_this_box a_this_row a_this_text a_this_numbers a_this_before v_states v_empty v_cut v_rowMany v_taken v_found v_textLong v_at v_stopped v_all) sz) := by
  refine g_met (cc := cX8_canRule) (maxL := 6) (ret := (some .int)) (Qc := fun D A => g_QI D (g_tys cI cM) A (ww_X8_canRule cI cM a_this a_this_all a_this_past a_this_refused a_this_box a_this_row a_this_text a_this_numbers a_this_before v_states v_empty v_cut v_rowMany v_taken v_found v_textLong v_at v_stopped v_all) r) (by decide) rfl ?_
  intro p e s m below meth c A C0 hA hK hP hD
  have hl := lv_entry ([.ref a_this, .int x1, .int x2, .int x3, .int x4]) (n := 6) (Nat.le_of_ble_eq_true rfl)
  rw [lg_entry_eq]
  generalize (lg_sl ([.ref a_this, .int x1, .int x2, .int x3, .int x4]) ++ List.replicate (6 - (lg_sl ([.ref a_this, .int x1, .int x2, .int x3, .int x4])).length) Slot.unset).toArray = ls at hl ⊢
  have hl : lv_has ls 6 [(0, .ref a_this), (1, .int x1), (2, .int x2), (3, .int x3), (4, .int x4)] := hl
  exact w_X8_canRule_B0 C0 hA hK x1 x2 x3 x4 s.heap [] ls hf hP hD va_S.rf (lv_sub hl [0, 1, 2, 3, 4] rfl)
/-! FloatBoxesModel.ruleNow(IIII)I -/
abbrev rm_X8_ruleNow : Room := { frames := 1, cells := 0, slots := 0, locals := 20 }
abbrev ww_X8_ruleNow (cI cM : ClassId) (a_this a_this_all a_this_past a_this_refused a_this_box a_this_row a_this_text a_this_numbers a_this_before : Nat) (v_states : Int32) (v_empty : Int32) (v_cut : Int32) (v_rowMany : Int32) (v_taken : Int32) (v_found : Int32) (v_textLong : Int32) (v_at : Int32) (v_stopped : Int32) (v_all : Nat → Int32) : va_W := [(a_this, .inr (6, [.ref a_this_all, .ref a_this_past, .int v_states, .ref a_this_refused, .ref a_this_box, .int v_empty, .int v_cut, .ref a_this_row, .int v_rowMany, .int v_taken, .int v_found, .ref a_this_text, .int v_textLong, .int v_at, .ref a_this_numbers, .int v_stopped, .ref a_this_before])), (a_this_all, .inl (cI, 38, .inl v_all))]
def f_X8_ruleNow  (v_all : Nat → Int32) (x1 : Int32) (x2 : Int32) (x3 : Int32) (x4 : Int32) : Option (Int32 × (Nat → Int32)) :=
  o_b1 (f_X8_rules v_all) (fun (r1 : Int32) =>
  o_in (14 + (4 * r1)) 38 (
  o_in (15 + (4 * r1)) 38 (
  o_in (16 + (4 * r1)) 38 (
  o_in (17 + (4 * r1)) 38 (
  o_in 13 38 (
  o_in 13 38 (
  some (r1, upd (upd (upd (upd (upd v_all (14 + (4 * r1)).toNatClampNeg x1) (15 + (4 * r1)).toNatClampNeg x2) (16 + (4 * r1)).toNatClampNeg x3) (17 + (4 * r1)).toNatClampNeg x4) (13 : Int32).toNatClampNeg (((upd (upd (upd (upd v_all (14 + (4 * r1)).toNatClampNeg x1) (15 + (4 * r1)).toNatClampNeg x2) (16 + (4 * r1)).toNatClampNeg x3) (17 + (4 * r1)).toNatClampNeg x4) (13 : Int32).toNatClampNeg) + 1)))))))))
set_option maxHeartbeats 4000000 in
set_option maxRecDepth 100000 in
theorem w_X8_ruleNow_B0 {p : Program} {l : Launch} {e : Env} {s : State} {m : MethodId} {args : Array Value} {below : List Frame} {meth : Method} {c : Code} {D : va_G} {cI cM : ClassId} {A : Nat → Prop} {a_this a_this_all a_this_past a_this_refused a_this_box a_this_row a_this_text a_this_numbers a_this_before : Nat} {v_states : Int32} {v_empty : Int32} {v_cut : Int32} {v_rowMany : Int32} {v_taken : Int32} {v_found : Int32} {v_textLong : Int32} {v_at : Int32} {v_stopped : Int32} {r : Int32} {o_all : Nat → Int32} (C0 : g_cx cX8_ruleNow (some .int) 6 RX8 wsX8_ruleNow p s m args meth c) (hA : ∀ q, s.heap.size ≤ q → A q) (hK : va_K D vwCl (g_tys cI cM) s) : ∀ (v_all : Nat → Int32) (x1 : Int32) (x2 : Int32) (x3 : Int32) (x4 : Int32) (H : Heap) (locs : List Loc) (ls : Array Slot), f_X8_ruleNow v_all x1 x2 x3 x4 = some (r, o_all) → va_P D vwCl (ww_X8_ruleNow cI cM a_this a_this_all a_this_past a_this_refused a_this_box a_this_row a_this_text a_this_numbers a_this_before v_states v_empty v_cut v_rowMany v_taken v_found v_textLong v_at v_stopped v_all) H → va_D A (ww_X8_ruleNow cI cM a_this a_this_all a_this_past a_this_refused a_this_box a_this_row a_this_text a_this_numbers a_this_before v_states v_empty v_cut v_rowMany v_taken v_found v_textLong v_at v_stopped v_all) → va_S A s.heap H locs → lv_has ls 6 [(0, .ref a_this), (1, .int x1), (2, .int x2), (3, .int x3), (4, .int x4)] → W p l e rm_X8_ruleNow s m args below meth c H locs 0 0 (MQ below (g_QI D (g_tys cI cM) A (ww_X8_ruleNow cI cM a_this a_this_all a_this_past a_this_refused a_this_box a_this_row a_this_text a_this_numbers a_this_before v_states v_empty v_cut v_rowMany v_taken v_found v_textLong v_at v_stopped o_all) r) args s 0 0 A) (F0 m 0 ls []) := by
  obtain ⟨hx, hb, hr, hml, hown, hts, hlocks⟩ := id C0
  intro v_all x1 x2 x3 x4 H locs ls hf hP hD hS hl
  unfold f_X8_ruleNow at hf
  refine lv_aload_n hx hb dX8_ruleNow_0 rfl (lv_at hl 0 rfl) ?_
  obtain ⟨r1, hg1, hf⟩ := o_b1_go hf
  refine g_callVi (wn := (ww_X8_ruleNow cI cM a_this a_this_all a_this_past a_this_refused a_this_box a_this_row a_this_text a_this_numbers a_this_before v_states v_empty v_cut v_rowMany v_taken v_found v_textLong v_at v_stopped v_all)) (rest := []) ⟨hx, hb, hml, hown, hts⟩ (c_X8_rules l D cI cM a_this a_this_all a_this_past a_this_refused a_this_box a_this_row a_this_text a_this_numbers a_this_before H.size v_states v_empty v_cut v_rowMany v_taken v_found v_textLong v_at v_stopped v_all hg1) (cwV 0 hts gX8_ruleNow_X8_rules rfl rfl rfl (by decide +kernel) ⟨Nat.le_of_ble_eq_true rfl, Nat.le_of_ble_eq_true rfl⟩) hK hP hD hS hA [0, 1] [] [0, 1] rfl rfl rfl rfl rfl rfl (by decide) rfl rfl rfl hl.1 rfl (Nat.le_of_ble_eq_true rfl) dX8_ruleNow_1 (fun H locs hP hD hS => ?_)
  refine lv_istore (lv' := [(5, .int r1), (0, .ref a_this), (1, .int x1), (2, .int x2), (3, .int x3), (4, .int x4)]) hx hb dX8_ruleNow_4 hl (by decide) rfl (fun ls hl => ?_)
  refine lv_aload_n hx hb dX8_ruleNow_6 rfl (lv_at hl 1 rfl) ?_
  refine va_get (D := D) (ci := 6) (v := .ref a_this_all) (C := RX8) (T := TX8) (N := 17) hx hb hts (fun _ h => (List.mem_cons_of_mem _ (List.mem_append_right _ h))) hown hK hP 0 rfl rfl 0 (by decide) (hts (.fieldLink RX8 7 "FloatBoxesModel" "all" "[I") (List.mem_cons_of_mem _ (List.mem_append_left _ (List.mem_of_getElem? (i := 0) rfl)))) (fun _ h9 => h9) rfl dX8_ruleNow_7 ?_
  refine lv_bipush (v := 14) hx hb dX8_ruleNow_10 (by decide) ?_
  refine lv_iconst (v := 4) hx hb dX8_ruleNow_12 (by decide) ?_
  refine lv_iload hx hb dX8_ruleNow_13 (lv_at hl 0 rfl) ?_
  refine lv_imul hx hb dX8_ruleNow_15 ?_
  refine lv_iadd hx hb dX8_ruleNow_16 ?_
  refine lv_iload_n hx hb dX8_ruleNow_17 rfl (lv_at hl 2 rfl) ?_
  obtain ⟨h18, hf⟩ := o_in_go hf
  refine va_iast hx hb hK hP hD hS 1 0 rfl rfl h18 dX8_ruleNow_18 (fun H locs hP hD hS => ?_)
  replace hP : va_P D vwCl (ww_X8_ruleNow cI cM a_this a_this_all a_this_past a_this_refused a_this_box a_this_row a_this_text a_this_numbers a_this_before v_states v_empty v_cut v_rowMany v_taken v_found v_textLong v_at v_stopped (upd v_all (14 + (4 * r1)).toNatClampNeg x1)) H := hP
  replace hD : va_D A (ww_X8_ruleNow cI cM a_this a_this_all a_this_past a_this_refused a_this_box a_this_row a_this_text a_this_numbers a_this_before v_states v_empty v_cut v_rowMany v_taken v_found v_textLong v_at v_stopped (upd v_all (14 + (4 * r1)).toNatClampNeg x1)) := hD
  refine lv_aload_n hx hb dX8_ruleNow_19 rfl (lv_at hl 1 rfl) ?_
  refine va_get (D := D) (ci := 6) (v := .ref a_this_all) (C := RX8) (T := TX8) (N := 17) hx hb hts (fun _ h => (List.mem_cons_of_mem _ (List.mem_append_right _ h))) hown hK hP 0 rfl rfl 0 (by decide) (hts (.fieldLink RX8 7 "FloatBoxesModel" "all" "[I") (List.mem_cons_of_mem _ (List.mem_append_left _ (List.mem_of_getElem? (i := 0) rfl)))) (fun _ h9 => h9) rfl dX8_ruleNow_20 ?_
  refine lv_bipush (v := 15) hx hb dX8_ruleNow_23 (by decide) ?_
  refine lv_iconst (v := 4) hx hb dX8_ruleNow_25 (by decide) ?_
  refine lv_iload hx hb dX8_ruleNow_26 (lv_at hl 0 rfl) ?_
  refine lv_imul hx hb dX8_ruleNow_28 ?_
  refine lv_iadd hx hb dX8_ruleNow_29 ?_
  refine lv_iload_n hx hb dX8_ruleNow_30 rfl (lv_at hl 3 rfl) ?_
  obtain ⟨h31, hf⟩ := o_in_go hf
  refine va_iast hx hb hK hP hD hS 1 0 rfl rfl h31 dX8_ruleNow_31 (fun H locs hP hD hS => ?_)
  replace hP : va_P D vwCl (ww_X8_ruleNow cI cM a_this a_this_all a_this_past a_this_refused a_this_box a_this_row a_this_text a_this_numbers a_this_before v_states v_empty v_cut v_rowMany v_taken v_found v_textLong v_at v_stopped (upd (upd v_all (14 + (4 * r1)).toNatClampNeg x1) (15 + (4 * r1)).toNatClampNeg x2)) H := hP
  replace hD : va_D A (ww_X8_ruleNow cI cM a_this a_this_all a_this_past a_this_refused a_this_box a_this_row a_this_text a_this_numbers a_this_before v_states v_empty v_cut v_rowMany v_taken v_found v_textLong v_at v_stopped (upd (upd v_all (14 + (4 * r1)).toNatClampNeg x1) (15 + (4 * r1)).toNatClampNeg x2)) := hD
  refine lv_aload_n hx hb dX8_ruleNow_32 rfl (lv_at hl 1 rfl) ?_
  refine va_get (D := D) (ci := 6) (v := .ref a_this_all) (C := RX8) (T := TX8) (N := 17) hx hb hts (fun _ h => (List.mem_cons_of_mem _ (List.mem_append_right _ h))) hown hK hP 0 rfl rfl 0 (by decide) (hts (.fieldLink RX8 7 "FloatBoxesModel" "all" "[I") (List.mem_cons_of_mem _ (List.mem_append_left _ (List.mem_of_getElem? (i := 0) rfl)))) (fun _ h9 => h9) rfl dX8_ruleNow_33 ?_
  refine lv_bipush (v := 16) hx hb dX8_ruleNow_36 (by decide) ?_
  refine lv_iconst (v := 4) hx hb dX8_ruleNow_38 (by decide) ?_
  refine lv_iload hx hb dX8_ruleNow_39 (lv_at hl 0 rfl) ?_
  refine lv_imul hx hb dX8_ruleNow_41 ?_
  refine lv_iadd hx hb dX8_ruleNow_42 ?_
  refine lv_iload_n hx hb dX8_ruleNow_43 rfl (lv_at hl 4 rfl) ?_
  obtain ⟨h44, hf⟩ := o_in_go hf
  refine va_iast hx hb hK hP hD hS 1 0 rfl rfl h44 dX8_ruleNow_44 (fun H locs hP hD hS => ?_)
  replace hP : va_P D vwCl (ww_X8_ruleNow cI cM a_this a_this_all a_this_past a_this_refused a_this_box a_this_row a_this_text a_this_numbers a_this_before v_states v_empty v_cut v_rowMany v_taken v_found v_textLong v_at v_stopped (upd (upd (upd v_all (14 + (4 * r1)).toNatClampNeg x1) (15 + (4 * r1)).toNatClampNeg x2) (16 + (4 * r1)).toNatClampNeg x3)) H := hP
  replace hD : va_D A (ww_X8_ruleNow cI cM a_this a_this_all a_this_past a_this_refused a_this_box a_this_row a_this_text a_this_numbers a_this_before v_states v_empty v_cut v_rowMany v_taken v_found v_textLong v_at v_stopped (upd (upd (upd v_all (14 + (4 * r1)).toNatClampNeg x1) (15 + (4 * r1)).toNatClampNeg x2) (16 + (4 * r1)).toNatClampNeg x3)) := hD
  refine lv_aload_n hx hb dX8_ruleNow_45 rfl (lv_at hl 1 rfl) ?_
  refine va_get (D := D) (ci := 6) (v := .ref a_this_all) (C := RX8) (T := TX8) (N := 17) hx hb hts (fun _ h => (List.mem_cons_of_mem _ (List.mem_append_right _ h))) hown hK hP 0 rfl rfl 0 (by decide) (hts (.fieldLink RX8 7 "FloatBoxesModel" "all" "[I") (List.mem_cons_of_mem _ (List.mem_append_left _ (List.mem_of_getElem? (i := 0) rfl)))) (fun _ h9 => h9) rfl dX8_ruleNow_46 ?_
  refine lv_bipush (v := 17) hx hb dX8_ruleNow_49 (by decide) ?_
  refine lv_iconst (v := 4) hx hb dX8_ruleNow_51 (by decide) ?_
  refine lv_iload hx hb dX8_ruleNow_52 (lv_at hl 0 rfl) ?_
  refine lv_imul hx hb dX8_ruleNow_54 ?_
  refine lv_iadd hx hb dX8_ruleNow_55 ?_
  refine lv_iload hx hb dX8_ruleNow_56 (lv_at hl 5 rfl) ?_
  obtain ⟨h58, hf⟩ := o_in_go hf
  refine va_iast hx hb hK hP hD hS 1 0 rfl rfl h58 dX8_ruleNow_58 (fun H locs hP hD hS => ?_)
  replace hP : va_P D vwCl (ww_X8_ruleNow cI cM a_this a_this_all a_this_past a_this_refused a_this_box a_this_row a_this_text a_this_numbers a_this_before v_states v_empty v_cut v_rowMany v_taken v_found v_textLong v_at v_stopped (upd (upd (upd (upd v_all (14 + (4 * r1)).toNatClampNeg x1) (15 + (4 * r1)).toNatClampNeg x2) (16 + (4 * r1)).toNatClampNeg x3) (17 + (4 * r1)).toNatClampNeg x4)) H := hP
  replace hD : va_D A (ww_X8_ruleNow cI cM a_this a_this_all a_this_past a_this_refused a_this_box a_this_row a_this_text a_this_numbers a_this_before v_states v_empty v_cut v_rowMany v_taken v_found v_textLong v_at v_stopped (upd (upd (upd (upd v_all (14 + (4 * r1)).toNatClampNeg x1) (15 + (4 * r1)).toNatClampNeg x2) (16 + (4 * r1)).toNatClampNeg x3) (17 + (4 * r1)).toNatClampNeg x4)) := hD
  refine lv_aload_n hx hb dX8_ruleNow_59 rfl (lv_at hl 1 rfl) ?_
  refine va_get (D := D) (ci := 6) (v := .ref a_this_all) (C := RX8) (T := TX8) (N := 17) hx hb hts (fun _ h => (List.mem_cons_of_mem _ (List.mem_append_right _ h))) hown hK hP 0 rfl rfl 0 (by decide) (hts (.fieldLink RX8 7 "FloatBoxesModel" "all" "[I") (List.mem_cons_of_mem _ (List.mem_append_left _ (List.mem_of_getElem? (i := 0) rfl)))) (fun _ h9 => h9) rfl dX8_ruleNow_60 ?_
  refine lv_bipush (v := 13) hx hb dX8_ruleNow_63 (by decide) ?_
  refine lv_dup2_11 hx hb dX8_ruleNow_65 rfl rfl ?_
  obtain ⟨h66, hf⟩ := o_in_go hf
  refine va_iald hx hb hK hP 1 0 rfl rfl h66 dX8_ruleNow_66 ?_
  refine lv_iconst (v := 1) hx hb dX8_ruleNow_67 (by decide) ?_
  refine lv_iadd hx hb dX8_ruleNow_68 ?_
  obtain ⟨h69, hf⟩ := o_in_go hf
  refine va_iast hx hb hK hP hD hS 1 0 rfl rfl h69 dX8_ruleNow_69 (fun H locs hP hD hS => ?_)
  replace hP : va_P D vwCl (ww_X8_ruleNow cI cM a_this a_this_all a_this_past a_this_refused a_this_box a_this_row a_this_text a_this_numbers a_this_before v_states v_empty v_cut v_rowMany v_taken v_found v_textLong v_at v_stopped (upd (upd (upd (upd (upd v_all (14 + (4 * r1)).toNatClampNeg x1) (15 + (4 * r1)).toNatClampNeg x2) (16 + (4 * r1)).toNatClampNeg x3) (17 + (4 * r1)).toNatClampNeg x4) (13 : Int32).toNatClampNeg (((upd (upd (upd (upd v_all (14 + (4 * r1)).toNatClampNeg x1) (15 + (4 * r1)).toNatClampNeg x2) (16 + (4 * r1)).toNatClampNeg x3) (17 + (4 * r1)).toNatClampNeg x4) (13 : Int32).toNatClampNeg) + 1))) H := hP
  replace hD : va_D A (ww_X8_ruleNow cI cM a_this a_this_all a_this_past a_this_refused a_this_box a_this_row a_this_text a_this_numbers a_this_before v_states v_empty v_cut v_rowMany v_taken v_found v_textLong v_at v_stopped (upd (upd (upd (upd (upd v_all (14 + (4 * r1)).toNatClampNeg x1) (15 + (4 * r1)).toNatClampNeg x2) (16 + (4 * r1)).toNatClampNeg x3) (17 + (4 * r1)).toNatClampNeg x4) (13 : Int32).toNatClampNeg (((upd (upd (upd (upd v_all (14 + (4 * r1)).toNatClampNeg x1) (15 + (4 * r1)).toNatClampNeg x2) (16 + (4 * r1)).toNatClampNeg x3) (17 + (4 * r1)).toNatClampNeg x4) (13 : Int32).toNatClampNeg) + 1))) := hD
  refine lv_iload hx hb dX8_ruleNow_70 (lv_at hl 0 rfl) ?_
  obtain ⟨q0, y0⟩ := o_rp hf
  have q1 := Option.some.inj y0
  subst q0 q1
  exact g_iret hx hb hr hlocks hP hD hK hS dX8_ruleNow_72
set_option maxHeartbeats 4000000 in
set_option maxRecDepth 100000 in
theorem c_X8_ruleNow (l : Launch) (D : va_G) (cI cM : ClassId) (a_this a_this_all a_this_past a_this_refused a_this_box a_this_row a_this_text a_this_numbers a_this_before : Nat) (sz : Nat) (v_states : Int32) (v_empty : Int32) (v_cut : Int32) (v_rowMany : Int32) (v_taken : Int32) (v_found : Int32) (v_textLong : Int32) (v_at : Int32) (v_stopped : Int32) (v_all : Nat → Int32) {x1 : Int32} {x2 : Int32} {x3 : Int32} {x4 : Int32} {r : Int32} {o_all : Nat → Int32} (hf : f_X8_ruleNow v_all x1 x2 x3 x4 = some (r, o_all)) : Met l yX8_ruleNow wsX8_ruleNow rm_X8_ruleNow (g_Pc D (g_tys cI cM) (ww_X8_ruleNow cI cM a_this a_this_all a_this_past a_this_refused a_this_box a_this_row a_this_text a_this_numbers a_this_before v_states v_empty v_cut v_rowMany v_taken v_found v_textLong v_at v_stopped v_all) sz [.ref a_this, .int x1, .int x2, .int x3, .int x4]) (g_QI D (g_tys cI cM) (va_A (ww_X8_ruleNow cI cM a_this a_this_all a_this_past a_this_refused a_this_box a_this_row a_this_text a_this_numbers a_this_before v_states v_empty v_cut v_rowMany v_taken v_found v_textLong v_at v_stopped v_all) sz) (ww_X8_ruleNow cI cM a_this a_this_all a_this_past a_this_refused a_this_box a_this_row a_this_text a_this_numbers a_this_before v_states v_empty v_cut v_rowMany v_taken v_found v_textLong v_at v_stopped o_all) r) 0 0 (va_A (ww_X8_ruleNow cI cM a_this a_this_all a_this_past a_this_refused a_this_box a_this_row a_this_text a_this_numbers a_this_before v_states v_empty v_cut v_rowMany v_taken v_found v_textLong v_at v_stopped v_all) sz) := by
  refine g_met (cc := cX8_ruleNow) (maxL := 6) (ret := (some .int)) (Qc := fun D A => g_QI D (g_tys cI cM) A (ww_X8_ruleNow cI cM a_this a_this_all a_this_past a_this_refused a_this_box a_this_row a_this_text a_this_numbers a_this_before v_states v_empty v_cut v_rowMany v_taken v_found v_textLong v_at v_stopped o_all) r) (by decide) rfl ?_
  intro p e s m below meth c A C0 hA hK hP hD
  have hl := lv_entry ([.ref a_this, .int x1, .int x2, .int x3, .int x4]) (n := 6) (Nat.le_of_ble_eq_true rfl)
  rw [lg_entry_eq]
  generalize (lg_sl ([.ref a_this, .int x1, .int x2, .int x3, .int x4]) ++ List.replicate (6 - (lg_sl ([.ref a_this, .int x1, .int x2, .int x3, .int x4])).length) Slot.unset).toArray = ls at hl ⊢
  have hl : lv_has ls 6 [(0, .ref a_this), (1, .int x1), (2, .int x2), (3, .int x3), (4, .int x4)] := hl
  exact w_X8_ruleNow_B0 C0 hA hK v_all x1 x2 x3 x4 s.heap [] ls hf hP hD va_S.rf (lv_sub hl [0, 1, 2, 3, 4] rfl)
/-! FloatBoxesModel.rule(IIII)I -/
abbrev rm_X8_rule : Room := { frames := 3, cells := 0, slots := 0, locals := 71 }
abbrev ww_X8_rule (cI cM : ClassId) (a_this a_this_all a_this_past a_this_refused a_this_box a_this_row a_this_text a_this_numbers a_this_before : Nat) (v_states : Int32) (v_empty : Int32) (v_cut : Int32) (v_rowMany : Int32) (v_taken : Int32) (v_found : Int32) (v_textLong : Int32) (v_at : Int32) (v_stopped : Int32) (v_all : Nat → Int32) (v_past : Nat → Int32) (v_refused : Nat → Int32) : va_W := [(a_this, .inr (6, [.ref a_this_all, .ref a_this_past, .int v_states, .ref a_this_refused, .ref a_this_box, .int v_empty, .int v_cut, .ref a_this_row, .int v_rowMany, .int v_taken, .int v_found, .ref a_this_text, .int v_textLong, .int v_at, .ref a_this_numbers, .int v_stopped, .ref a_this_before])), (a_this_all, .inl (cI, 38, .inl v_all)), (a_this_past, .inl (cI, 190, .inl v_past)), (a_this_refused, .inl (cI, 3, .inl v_refused))]
def f_X8_rule (N : Nat) (v_states : Int32) (v_all : Nat → Int32) (v_past : Nat → Int32) (v_refused : Nat → Int32) (x1 : Int32) (x2 : Int32) (x3 : Int32) (x4 : Int32) : Option (Int32 × Int32 × (Nat → Int32) × (Nat → Int32) × (Nat → Int32)) :=
  o_b1 (f_X8_canRule v_all x1 x2 x3 x4) (fun (r6 : Int32) =>
  if 0 ≤ r6 then
    o_b2 (f_X8_keep N v_all v_states v_past) (fun (v_states_24 : Int32) (v_past_24 : Nat → Int32) =>
    o_b2 (f_X8_ruleNow v_all x1 x2 x3 x4) (fun (r33 : Int32) (v_all_33 : Nat → Int32) =>
    some (r33, v_states_24, v_all_33, v_past_24, v_refused)))
  else
    o_b2 (f_X8_refuses v_refused r6) (fun (r19 : Int32) (v_refused_19 : Nat → Int32) =>
    some (r19, v_states, v_all, v_past, v_refused_19)))
set_option maxHeartbeats 4000000 in
set_option maxRecDepth 100000 in
theorem w_X8_rule_B0 {p : Program} {l : Launch} {e : Env} {s : State} {m : MethodId} {args : Array Value} {below : List Frame} {meth : Method} {c : Code} {D : va_G} {cI cM : ClassId} {A : Nat → Prop} {a_this a_this_all a_this_past a_this_refused a_this_box a_this_row a_this_text a_this_numbers a_this_before : Nat} {v_empty : Int32} {v_cut : Int32} {v_rowMany : Int32} {v_taken : Int32} {v_found : Int32} {v_textLong : Int32} {v_at : Int32} {v_stopped : Int32} {N : Nat} {r : Int32} {o_states : Int32} {o_all : Nat → Int32} {o_past : Nat → Int32} {o_refused : Nat → Int32} (C0 : g_cx cX8_rule (some .int) 6 RX8 wsX8_rule p s m args meth c) (hA : ∀ q, s.heap.size ≤ q → A q) (hK : va_K D vwCl (g_tys cI cM) s) : ∀ (v_states : Int32) (v_all : Nat → Int32) (v_past : Nat → Int32) (v_refused : Nat → Int32) (x1 : Int32) (x2 : Int32) (x3 : Int32) (x4 : Int32) (H : Heap) (locs : List Loc) (ls : Array Slot), f_X8_rule N v_states v_all v_past v_refused x1 x2 x3 x4 = some (r, o_states, o_all, o_past, o_refused) → va_P D vwCl (ww_X8_rule cI cM a_this a_this_all a_this_past a_this_refused a_this_box a_this_row a_this_text a_this_numbers a_this_before v_states v_empty v_cut v_rowMany v_taken v_found v_textLong v_at v_stopped v_all v_past v_refused) H → va_D A (ww_X8_rule cI cM a_this a_this_all a_this_past a_this_refused a_this_box a_this_row a_this_text a_this_numbers a_this_before v_states v_empty v_cut v_rowMany v_taken v_found v_textLong v_at v_stopped v_all v_past v_refused) → va_S A s.heap H locs → lv_has ls 6 [(0, .ref a_this), (1, .int x1), (2, .int x2), (3, .int x3), (4, .int x4)] → W p l e rm_X8_rule s m args below meth c H locs 0 0 (MQ below (g_QI D (g_tys cI cM) A (ww_X8_rule cI cM a_this a_this_all a_this_past a_this_refused a_this_box a_this_row a_this_text a_this_numbers a_this_before o_states v_empty v_cut v_rowMany v_taken v_found v_textLong v_at v_stopped o_all o_past o_refused) r) args s 0 0 A) (F0 m 0 ls []) := by
  obtain ⟨hx, hb, hr, hml, hown, hts, hlocks⟩ := id C0
  intro v_states v_all v_past v_refused x1 x2 x3 x4 H locs ls hf hP hD hS hl
  unfold f_X8_rule at hf
  refine lv_aload_n hx hb dX8_rule_0 rfl (lv_at hl 0 rfl) ?_
  refine lv_iload_n hx hb dX8_rule_1 rfl (lv_at hl 1 rfl) ?_
  refine lv_iload_n hx hb dX8_rule_2 rfl (lv_at hl 2 rfl) ?_
  refine lv_iload_n hx hb dX8_rule_3 rfl (lv_at hl 3 rfl) ?_
  refine lv_iload hx hb dX8_rule_4 (lv_at hl 4 rfl) ?_
  obtain ⟨r6, hg6, hf⟩ := o_b1_go hf
  refine g_callVi (wn := (ww_X8_rule cI cM a_this a_this_all a_this_past a_this_refused a_this_box a_this_row a_this_text a_this_numbers a_this_before v_states v_empty v_cut v_rowMany v_taken v_found v_textLong v_at v_stopped v_all v_past v_refused)) (rest := []) ⟨hx, hb, hml, hown, hts⟩ (c_X8_canRule l D cI cM a_this a_this_all a_this_past a_this_refused a_this_box a_this_row a_this_text a_this_numbers a_this_before H.size v_states v_empty v_cut v_rowMany v_taken v_found v_textLong v_at v_stopped v_all hg6) (cwV 4 hts gX8_rule_X8_canRule rfl rfl rfl (by decide +kernel) ⟨Nat.le_of_ble_eq_true rfl, Nat.le_of_ble_eq_true rfl⟩) hK hP hD hS hA [0, 1] [2, 3] [2, 3, 0, 1] rfl rfl rfl rfl rfl rfl (by decide) rfl rfl rfl hl.1 rfl (Nat.le_of_ble_eq_true rfl) dX8_rule_6 (fun H locs hP hD hS => ?_)
  refine lv_istore (lv' := [(5, .int r6), (0, .ref a_this), (1, .int x1), (2, .int x2), (3, .int x3), (4, .int x4)]) hx hb dX8_rule_9 hl (by decide) rfl (fun ls hl => ?_)
  refine lv_iload hx hb dX8_rule_11 (lv_at hl 0 rfl) ?_
  refine lv_if_ge (tgt := 23) hx hb dX8_rule_13 (by decide) (fun c13 => ?_) (fun c13 => ?_)
  · replace hf := o_t c13 hf
    refine lv_aload_n hx hb dX8_rule_23 rfl (lv_at hl 1 rfl) ?_
    obtain ⟨v_states_24, v_past_24, hg24, hf⟩ := o_b2_go hf
    refine g_callVv (wn := (ww_X8_rule cI cM a_this a_this_all a_this_past a_this_refused a_this_box a_this_row a_this_text a_this_numbers a_this_before v_states_24 v_empty v_cut v_rowMany v_taken v_found v_textLong v_at v_stopped v_all v_past_24 v_refused)) (rest := []) ⟨hx, hb, hml, hown, hts⟩ (c_X8_keep l D cI cM a_this a_this_all a_this_past a_this_refused a_this_box a_this_row a_this_text a_this_numbers a_this_before H.size v_states v_empty v_cut v_rowMany v_taken v_found v_textLong v_at v_stopped v_all v_past hg24) (cwV 0 hts gX8_rule_X8_keep rfl rfl rfl (by decide +kernel) ⟨Nat.le_of_ble_eq_true rfl, Nat.le_of_ble_eq_true rfl⟩) hK hP hD hS hA [0, 1, 2] [3] [1, 2, 3, 0] rfl rfl rfl rfl rfl rfl (by decide) rfl rfl rfl hl.1 rfl (Nat.le_of_ble_eq_true rfl) dX8_rule_24 (fun H locs hP hD hS => ?_)
    refine lv_aload_n hx hb dX8_rule_27 rfl (lv_at hl 1 rfl) ?_
    refine lv_iload_n hx hb dX8_rule_28 rfl (lv_at hl 2 rfl) ?_
    refine lv_iload_n hx hb dX8_rule_29 rfl (lv_at hl 3 rfl) ?_
    refine lv_iload_n hx hb dX8_rule_30 rfl (lv_at hl 4 rfl) ?_
    refine lv_iload hx hb dX8_rule_31 (lv_at hl 5 rfl) ?_
    obtain ⟨r33, v_all_33, hg33, hf⟩ := o_b2_go hf
    refine g_callVi (wn := (ww_X8_rule cI cM a_this a_this_all a_this_past a_this_refused a_this_box a_this_row a_this_text a_this_numbers a_this_before v_states_24 v_empty v_cut v_rowMany v_taken v_found v_textLong v_at v_stopped v_all_33 v_past_24 v_refused)) (rest := []) ⟨hx, hb, hml, hown, hts⟩ (c_X8_ruleNow l D cI cM a_this a_this_all a_this_past a_this_refused a_this_box a_this_row a_this_text a_this_numbers a_this_before H.size v_states_24 v_empty v_cut v_rowMany v_taken v_found v_textLong v_at v_stopped v_all hg33) (cwV 4 hts gX8_rule_X8_ruleNow rfl rfl rfl (by decide +kernel) ⟨Nat.le_of_ble_eq_true rfl, Nat.le_of_ble_eq_true rfl⟩) hK hP hD hS hA [0, 1] [2, 3] [2, 3, 0, 1] rfl rfl rfl rfl rfl rfl (by decide) rfl rfl rfl hl.1 rfl (Nat.le_of_ble_eq_true rfl) dX8_rule_33 (fun H locs hP hD hS => ?_)
    obtain ⟨q0, y0⟩ := o_rp hf
    obtain ⟨q1, y1⟩ := o_rp y0
    obtain ⟨q2, y2⟩ := o_rp y1
    obtain ⟨q3, y3⟩ := o_rp y2
    have q4 := Option.some.inj y3
    subst q0 q1 q2 q3 q4
    exact g_iret hx hb hr hlocks hP hD hK hS dX8_rule_36
  · replace hf := o_f c13 hf
    refine lv_aload_n hx hb dX8_rule_16 rfl (lv_at hl 1 rfl) ?_
    refine lv_iload hx hb dX8_rule_17 (lv_at hl 0 rfl) ?_
    obtain ⟨r19, v_refused_19, hg19, hf⟩ := o_b2_go hf
    refine g_callVi (wn := (ww_X8_rule cI cM a_this a_this_all a_this_past a_this_refused a_this_box a_this_row a_this_text a_this_numbers a_this_before v_states v_empty v_cut v_rowMany v_taken v_found v_textLong v_at v_stopped v_all v_past v_refused_19)) (rest := []) ⟨hx, hb, hml, hown, hts⟩ (c_X8_refuses l D cI cM a_this a_this_all a_this_past a_this_refused a_this_box a_this_row a_this_text a_this_numbers a_this_before H.size v_states v_empty v_cut v_rowMany v_taken v_found v_textLong v_at v_stopped v_refused hg19) (cwV 1 hts gX8_rule_X8_refuses rfl rfl rfl (by decide +kernel) ⟨Nat.le_of_ble_eq_true rfl, Nat.le_of_ble_eq_true rfl⟩) hK hP hD hS hA [0, 3] [1, 2] [2, 0, 1, 3] rfl rfl rfl rfl rfl rfl (by decide) rfl rfl rfl hl.1 rfl (Nat.le_of_ble_eq_true rfl) dX8_rule_19 (fun H locs hP hD hS => ?_)
    obtain ⟨q0, y0⟩ := o_rp hf
    obtain ⟨q1, y1⟩ := o_rp y0
    obtain ⟨q2, y2⟩ := o_rp y1
    obtain ⟨q3, y3⟩ := o_rp y2
    have q4 := Option.some.inj y3
    subst q0 q1 q2 q3 q4
    exact g_iret hx hb hr hlocks hP hD hK hS dX8_rule_22
set_option maxHeartbeats 4000000 in
set_option maxRecDepth 100000 in
theorem c_X8_rule (l : Launch) (D : va_G) (cI cM : ClassId) (a_this a_this_all a_this_past a_this_refused a_this_box a_this_row a_this_text a_this_numbers a_this_before : Nat) (sz : Nat) (v_states : Int32) (v_empty : Int32) (v_cut : Int32) (v_rowMany : Int32) (v_taken : Int32) (v_found : Int32) (v_textLong : Int32) (v_at : Int32) (v_stopped : Int32) (v_all : Nat → Int32) (v_past : Nat → Int32) (v_refused : Nat → Int32) {N : Nat} {x1 : Int32} {x2 : Int32} {x3 : Int32} {x4 : Int32} {r : Int32} {o_states : Int32} {o_all : Nat → Int32} {o_past : Nat → Int32} {o_refused : Nat → Int32} (hf : f_X8_rule N v_states v_all v_past v_refused x1 x2 x3 x4 = some (r, o_states, o_all, o_past, o_refused)) : Met l yX8_rule wsX8_rule rm_X8_rule (g_Pc D (g_tys cI cM) (ww_X8_rule cI cM a_this a_this_all a_this_past a_this_refused a_this_box a_this_row a_this_text a_this_numbers a_this_before v_states v_empty v_cut v_rowMany v_taken v_found v_textLong v_at v_stopped v_all v_past v_refused) sz [.ref a_this, .int x1, .int x2, .int x3, .int x4]) (g_QI D (g_tys cI cM) (va_A (ww_X8_rule cI cM a_this a_this_all a_this_past a_this_refused a_this_box a_this_row a_this_text a_this_numbers a_this_before v_states v_empty v_cut v_rowMany v_taken v_found v_textLong v_at v_stopped v_all v_past v_refused) sz) (ww_X8_rule cI cM a_this a_this_all a_this_past a_this_refused a_this_box a_this_row a_this_text a_this_numbers a_this_before o_states v_empty v_cut v_rowMany v_taken v_found v_textLong v_at v_stopped o_all o_past o_refused) r) 0 0 (va_A (ww_X8_rule cI cM a_this a_this_all a_this_past a_this_refused a_this_box a_this_row a_this_text a_this_numbers a_this_before v_states v_empty v_cut v_rowMany v_taken v_found v_textLong v_at v_stopped v_all v_past v_refused) sz) := by
  refine g_met (cc := cX8_rule) (maxL := 6) (ret := (some .int)) (Qc := fun D A => g_QI D (g_tys cI cM) A (ww_X8_rule cI cM a_this a_this_all a_this_past a_this_refused a_this_box a_this_row a_this_text a_this_numbers a_this_before o_states v_empty v_cut v_rowMany v_taken v_found v_textLong v_at v_stopped o_all o_past o_refused) r) (by decide) rfl ?_
  intro p e s m below meth c A C0 hA hK hP hD
  have hl := lv_entry ([.ref a_this, .int x1, .int x2, .int x3, .int x4]) (n := 6) (Nat.le_of_ble_eq_true rfl)
  rw [lg_entry_eq]
  generalize (lg_sl ([.ref a_this, .int x1, .int x2, .int x3, .int x4]) ++ List.replicate (6 - (lg_sl ([.ref a_this, .int x1, .int x2, .int x3, .int x4])).length) Slot.unset).toArray = ls at hl ⊢
  have hl : lv_has ls 6 [(0, .ref a_this), (1, .int x1), (2, .int x2), (3, .int x3), (4, .int x4)] := hl
  exact w_X8_rule_B0 C0 hA hK v_states v_all v_past v_refused x1 x2 x3 x4 s.heap [] ls hf hP hD va_S.rf (lv_sub hl [0, 1, 2, 3, 4] rfl)
/-! FloatBoxesModel.dropNow(I)I -/
abbrev rm_X8_dropNow : Room := { frames := 1, cells := 0, slots := 0, locals := 20 }
abbrev ww_X8_dropNow (cI cM : ClassId) (a_this a_this_all a_this_past a_this_refused a_this_box a_this_row a_this_text a_this_numbers a_this_before : Nat) (v_states : Int32) (v_empty : Int32) (v_cut : Int32) (v_rowMany : Int32) (v_taken : Int32) (v_found : Int32) (v_textLong : Int32) (v_at : Int32) (v_stopped : Int32) (v_all : Nat → Int32) : va_W := [(a_this, .inr (6, [.ref a_this_all, .ref a_this_past, .int v_states, .ref a_this_refused, .ref a_this_box, .int v_empty, .int v_cut, .ref a_this_row, .int v_rowMany, .int v_taken, .int v_found, .ref a_this_text, .int v_textLong, .int v_at, .ref a_this_numbers, .int v_stopped, .ref a_this_before])), (a_this_all, .inl (cI, 38, .inl v_all))]
def f_X8_dropNow_C18 (N : Nat) (k18 : (Nat → Int32) → Int32 → Option (Int32 × (Nat → Int32))) (v_all : Nat → Int32) (x2 : Int32) : Option (Int32 × (Nat → Int32)) :=
  o_b1 (f_X8_rules v_all) (fun (r23 : Int32) =>
  if (14 + (4 * r23)) ≤ x2 then
    o_b1 (f_X8_rules v_all) (fun (r52 : Int32) =>
    some (r52, v_all))
  else
    o_in (x2 + 4) 38 (
    o_in x2 38 (
    k18 (upd v_all x2.toNatClampNeg (v_all (x2 + 4).toNatClampNeg)) (x2 + 1))))
def f_X8_dropNow_L18 (N : Nat) : Nat → (Nat → Int32) → Int32 → Option (Int32 × (Nat → Int32))
  | 0 => fun _ _ => none
  | n + 1 => f_X8_dropNow_C18 N (f_X8_dropNow_L18 N n)
set_option maxHeartbeats 4000000 in
set_option maxRecDepth 100000 in
theorem w_X8_dropNow_C18 {p : Program} {l : Launch} {e : Env} {s : State} {m : MethodId} {args : Array Value} {below : List Frame} {meth : Method} {c : Code} {D : va_G} {cI cM : ClassId} {A : Nat → Prop} {a_this a_this_all a_this_past a_this_refused a_this_box a_this_row a_this_text a_this_numbers a_this_before : Nat} {v_states : Int32} {v_empty : Int32} {v_cut : Int32} {v_rowMany : Int32} {v_taken : Int32} {v_found : Int32} {v_textLong : Int32} {v_at : Int32} {v_stopped : Int32} {N : Nat} {r : Int32} {o_all : Nat → Int32} (C0 : g_cx cX8_dropNow (some .int) 3 RX8 wsX8_dropNow p s m args meth c) (hA : ∀ q, s.heap.size ≤ q → A q) (hK : va_K D vwCl (g_tys cI cM) s) (k18 : (Nat → Int32) → Int32 → Option (Int32 × (Nat → Int32))) (hk18 : ∀ (v_all : Nat → Int32) (x2 : Int32) (H : Heap) (locs : List Loc) (ls : Array Slot), k18 v_all x2 = some (r, o_all) → va_P D vwCl (ww_X8_dropNow cI cM a_this a_this_all a_this_past a_this_refused a_this_box a_this_row a_this_text a_this_numbers a_this_before v_states v_empty v_cut v_rowMany v_taken v_found v_textLong v_at v_stopped v_all) H → va_D A (ww_X8_dropNow cI cM a_this a_this_all a_this_past a_this_refused a_this_box a_this_row a_this_text a_this_numbers a_this_before v_states v_empty v_cut v_rowMany v_taken v_found v_textLong v_at v_stopped v_all) → va_S A s.heap H locs → lv_has ls 3 [(0, .ref a_this), (2, .int x2)] → W p l e rm_X8_dropNow s m args below meth c H locs 0 0 (MQ below (g_QI D (g_tys cI cM) A (ww_X8_dropNow cI cM a_this a_this_all a_this_past a_this_refused a_this_box a_this_row a_this_text a_this_numbers a_this_before v_states v_empty v_cut v_rowMany v_taken v_found v_textLong v_at v_stopped o_all) r) args s 0 0 A) (F0 m 18 ls [])) : ∀ (v_all : Nat → Int32) (x2 : Int32) (H : Heap) (locs : List Loc) (ls : Array Slot), f_X8_dropNow_C18 N k18 v_all x2 = some (r, o_all) → va_P D vwCl (ww_X8_dropNow cI cM a_this a_this_all a_this_past a_this_refused a_this_box a_this_row a_this_text a_this_numbers a_this_before v_states v_empty v_cut v_rowMany v_taken v_found v_textLong v_at v_stopped v_all) H → va_D A (ww_X8_dropNow cI cM a_this a_this_all a_this_past a_this_refused a_this_box a_this_row a_this_text a_this_numbers a_this_before v_states v_empty v_cut v_rowMany v_taken v_found v_textLong v_at v_stopped v_all) → va_S A s.heap H locs → lv_has ls 3 [(0, .ref a_this), (2, .int x2)] → W p l e rm_X8_dropNow s m args below meth c H locs 0 0 (MQ below (g_QI D (g_tys cI cM) A (ww_X8_dropNow cI cM a_this a_this_all a_this_past a_this_refused a_this_box a_this_row a_this_text a_this_numbers a_this_before v_states v_empty v_cut v_rowMany v_taken v_found v_textLong v_at v_stopped o_all) r) args s 0 0 A) (F0 m 18 ls []) := by
  obtain ⟨hx, hb, hr, hml, hown, hts, hlocks⟩ := id C0
  intro v_all x2 H locs ls hf hP hD hS hl
  unfold f_X8_dropNow_C18 at hf
  refine lv_iload_n hx hb dX8_dropNow_18 rfl (lv_at hl 1 rfl) ?_
  refine lv_bipush (v := 14) hx hb dX8_dropNow_19 (by decide) ?_
  refine lv_iconst (v := 4) hx hb dX8_dropNow_21 (by decide) ?_
  refine lv_aload_n hx hb dX8_dropNow_22 rfl (lv_at hl 0 rfl) ?_
  obtain ⟨r23, hg23, hf⟩ := o_b1_go hf
  refine g_callVi (wn := (ww_X8_dropNow cI cM a_this a_this_all a_this_past a_this_refused a_this_box a_this_row a_this_text a_this_numbers a_this_before v_states v_empty v_cut v_rowMany v_taken v_found v_textLong v_at v_stopped v_all)) (rest := [.int 4, .int 14, .int x2]) ⟨hx, hb, hml, hown, hts⟩ (c_X8_rules l D cI cM a_this a_this_all a_this_past a_this_refused a_this_box a_this_row a_this_text a_this_numbers a_this_before H.size v_states v_empty v_cut v_rowMany v_taken v_found v_textLong v_at v_stopped v_all hg23) (cwV 0 hts gX8_dropNow_X8_rules rfl rfl rfl (by decide +kernel) ⟨Nat.le_of_ble_eq_true rfl, Nat.le_of_ble_eq_true rfl⟩) hK hP hD hS hA [0, 1] [] [0, 1] rfl rfl rfl rfl rfl rfl (by decide) rfl rfl rfl hl.1 rfl (Nat.le_of_ble_eq_true rfl) dX8_dropNow_23 (fun H locs hP hD hS => ?_)
  refine lv_imul hx hb dX8_dropNow_26 ?_
  refine lv_iadd hx hb dX8_dropNow_27 ?_
  refine lv_icmp_ge (tgt := 51) hx hb dX8_dropNow_28 (by decide) (fun c28 => ?_) (fun c28 => ?_)
  · replace hf := o_t c28 hf
    refine lv_aload_n hx hb dX8_dropNow_51 rfl (lv_at hl 0 rfl) ?_
    obtain ⟨r52, hg52, hf⟩ := o_b1_go hf
    refine g_callVi (wn := (ww_X8_dropNow cI cM a_this a_this_all a_this_past a_this_refused a_this_box a_this_row a_this_text a_this_numbers a_this_before v_states v_empty v_cut v_rowMany v_taken v_found v_textLong v_at v_stopped v_all)) (rest := []) ⟨hx, hb, hml, hown, hts⟩ (c_X8_rules l D cI cM a_this a_this_all a_this_past a_this_refused a_this_box a_this_row a_this_text a_this_numbers a_this_before H.size v_states v_empty v_cut v_rowMany v_taken v_found v_textLong v_at v_stopped v_all hg52) (cwV 0 hts gX8_dropNow_X8_rules rfl rfl rfl (by decide +kernel) ⟨Nat.le_of_ble_eq_true rfl, Nat.le_of_ble_eq_true rfl⟩) hK hP hD hS hA [0, 1] [] [0, 1] rfl rfl rfl rfl rfl rfl (by decide) rfl rfl rfl hl.1 rfl (Nat.le_of_ble_eq_true rfl) dX8_dropNow_52 (fun H locs hP hD hS => ?_)
    obtain ⟨q0, y0⟩ := o_rp hf
    have q1 := Option.some.inj y0
    subst q0 q1
    exact g_iret hx hb hr hlocks hP hD hK hS dX8_dropNow_55
  · replace hf := o_f c28 hf
    refine lv_aload_n hx hb dX8_dropNow_31 rfl (lv_at hl 0 rfl) ?_
    refine va_get (D := D) (ci := 6) (v := .ref a_this_all) (C := RX8) (T := TX8) (N := 17) hx hb hts (fun _ h => (List.mem_cons_of_mem _ (List.mem_append_right _ h))) hown hK hP 0 rfl rfl 0 (by decide) (hts (.fieldLink RX8 7 "FloatBoxesModel" "all" "[I") (List.mem_cons_of_mem _ (List.mem_append_left _ (List.mem_of_getElem? (i := 0) rfl)))) (fun _ h9 => h9) rfl dX8_dropNow_32 ?_
    refine lv_iload_n hx hb dX8_dropNow_35 rfl (lv_at hl 1 rfl) ?_
    refine lv_aload_n hx hb dX8_dropNow_36 rfl (lv_at hl 0 rfl) ?_
    refine va_get (D := D) (ci := 6) (v := .ref a_this_all) (C := RX8) (T := TX8) (N := 17) hx hb hts (fun _ h => (List.mem_cons_of_mem _ (List.mem_append_right _ h))) hown hK hP 0 rfl rfl 0 (by decide) (hts (.fieldLink RX8 7 "FloatBoxesModel" "all" "[I") (List.mem_cons_of_mem _ (List.mem_append_left _ (List.mem_of_getElem? (i := 0) rfl)))) (fun _ h9 => h9) rfl dX8_dropNow_37 ?_
    refine lv_iload_n hx hb dX8_dropNow_40 rfl (lv_at hl 1 rfl) ?_
    refine lv_iconst (v := 4) hx hb dX8_dropNow_41 (by decide) ?_
    refine lv_iadd hx hb dX8_dropNow_42 ?_
    obtain ⟨h43, hf⟩ := o_in_go hf
    refine va_iald hx hb hK hP 1 0 rfl rfl h43 dX8_dropNow_43 ?_
    obtain ⟨h44, hf⟩ := o_in_go hf
    refine va_iast hx hb hK hP hD hS 1 0 rfl rfl h44 dX8_dropNow_44 (fun H locs hP hD hS => ?_)
    replace hP : va_P D vwCl (ww_X8_dropNow cI cM a_this a_this_all a_this_past a_this_refused a_this_box a_this_row a_this_text a_this_numbers a_this_before v_states v_empty v_cut v_rowMany v_taken v_found v_textLong v_at v_stopped (upd v_all x2.toNatClampNeg (v_all (x2 + 4).toNatClampNeg))) H := hP
    replace hD : va_D A (ww_X8_dropNow cI cM a_this a_this_all a_this_past a_this_refused a_this_box a_this_row a_this_text a_this_numbers a_this_before v_states v_empty v_cut v_rowMany v_taken v_found v_textLong v_at v_stopped (upd v_all x2.toNatClampNeg (v_all (x2 + 4).toNatClampNeg))) := hD
    refine lv_iinc (v := x2 + 1) (lv' := [(2, .int (x2 + 1)), (0, .ref a_this)]) hx hb dX8_dropNow_45 hl (k := 1) rfl rfl (by decide) rfl (fun ls hl => ?_)
    refine lv_goto (tgt := 18) hx hb dX8_dropNow_48 (by decide) ?_
    exact hk18 (upd v_all x2.toNatClampNeg (v_all (x2 + 4).toNatClampNeg)) (x2 + 1) H locs ls hf hP hD hS (lv_sub hl [1, 0] rfl)
set_option maxHeartbeats 4000000 in
set_option maxRecDepth 100000 in
theorem w_X8_dropNow_L18 {p : Program} {l : Launch} {e : Env} {s : State} {m : MethodId} {args : Array Value} {below : List Frame} {meth : Method} {c : Code} {D : va_G} {cI cM : ClassId} {A : Nat → Prop} {a_this a_this_all a_this_past a_this_refused a_this_box a_this_row a_this_text a_this_numbers a_this_before : Nat} {v_states : Int32} {v_empty : Int32} {v_cut : Int32} {v_rowMany : Int32} {v_taken : Int32} {v_found : Int32} {v_textLong : Int32} {v_at : Int32} {v_stopped : Int32} {N : Nat} {r : Int32} {o_all : Nat → Int32} (C0 : g_cx cX8_dropNow (some .int) 3 RX8 wsX8_dropNow p s m args meth c) (hA : ∀ q, s.heap.size ≤ q → A q) (hK : va_K D vwCl (g_tys cI cM) s) : ∀ n : Nat, ∀ (v_all : Nat → Int32) (x2 : Int32) (H : Heap) (locs : List Loc) (ls : Array Slot), f_X8_dropNow_L18 N n v_all x2 = some (r, o_all) → va_P D vwCl (ww_X8_dropNow cI cM a_this a_this_all a_this_past a_this_refused a_this_box a_this_row a_this_text a_this_numbers a_this_before v_states v_empty v_cut v_rowMany v_taken v_found v_textLong v_at v_stopped v_all) H → va_D A (ww_X8_dropNow cI cM a_this a_this_all a_this_past a_this_refused a_this_box a_this_row a_this_text a_this_numbers a_this_before v_states v_empty v_cut v_rowMany v_taken v_found v_textLong v_at v_stopped v_all) → va_S A s.heap H locs → lv_has ls 3 [(0, .ref a_this), (2, .int x2)] → W p l e rm_X8_dropNow s m args below meth c H locs 0 0 (MQ below (g_QI D (g_tys cI cM) A (ww_X8_dropNow cI cM a_this a_this_all a_this_past a_this_refused a_this_box a_this_row a_this_text a_this_numbers a_this_before v_states v_empty v_cut v_rowMany v_taken v_found v_textLong v_at v_stopped o_all) r) args s 0 0 A) (F0 m 18 ls []) := by
  intro n
  induction n with
  | zero =>
    intro v_all x2 H locs ls hf
    exact absurd hf (fun h => nomatch h)
  | succ n ih =>
    intro v_all x2 H locs ls hf
    exact w_X8_dropNow_C18 C0 hA hK _ ih v_all x2 H locs ls hf
def f_X8_dropNow (N : Nat) (v_all : Nat → Int32) (x1 : Int32) : Option (Int32 × (Nat → Int32)) :=
  o_in 13 38 (
  o_in 13 38 (
  o_nm (14 + (4 * x1)) (fun (t17 : Int32) =>
  f_X8_dropNow_L18 N N (upd v_all (13 : Int32).toNatClampNeg ((v_all (13 : Int32).toNatClampNeg) - 1)) t17)))
set_option maxHeartbeats 4000000 in
set_option maxRecDepth 100000 in
theorem w_X8_dropNow_B0 {p : Program} {l : Launch} {e : Env} {s : State} {m : MethodId} {args : Array Value} {below : List Frame} {meth : Method} {c : Code} {D : va_G} {cI cM : ClassId} {A : Nat → Prop} {a_this a_this_all a_this_past a_this_refused a_this_box a_this_row a_this_text a_this_numbers a_this_before : Nat} {v_states : Int32} {v_empty : Int32} {v_cut : Int32} {v_rowMany : Int32} {v_taken : Int32} {v_found : Int32} {v_textLong : Int32} {v_at : Int32} {v_stopped : Int32} {N : Nat} {r : Int32} {o_all : Nat → Int32} (C0 : g_cx cX8_dropNow (some .int) 3 RX8 wsX8_dropNow p s m args meth c) (hA : ∀ q, s.heap.size ≤ q → A q) (hK : va_K D vwCl (g_tys cI cM) s) : ∀ (v_all : Nat → Int32) (x1 : Int32) (H : Heap) (locs : List Loc) (ls : Array Slot), f_X8_dropNow N v_all x1 = some (r, o_all) → va_P D vwCl (ww_X8_dropNow cI cM a_this a_this_all a_this_past a_this_refused a_this_box a_this_row a_this_text a_this_numbers a_this_before v_states v_empty v_cut v_rowMany v_taken v_found v_textLong v_at v_stopped v_all) H → va_D A (ww_X8_dropNow cI cM a_this a_this_all a_this_past a_this_refused a_this_box a_this_row a_this_text a_this_numbers a_this_before v_states v_empty v_cut v_rowMany v_taken v_found v_textLong v_at v_stopped v_all) → va_S A s.heap H locs → lv_has ls 3 [(0, .ref a_this), (1, .int x1)] → W p l e rm_X8_dropNow s m args below meth c H locs 0 0 (MQ below (g_QI D (g_tys cI cM) A (ww_X8_dropNow cI cM a_this a_this_all a_this_past a_this_refused a_this_box a_this_row a_this_text a_this_numbers a_this_before v_states v_empty v_cut v_rowMany v_taken v_found v_textLong v_at v_stopped o_all) r) args s 0 0 A) (F0 m 0 ls []) := by
  obtain ⟨hx, hb, hr, hml, hown, hts, hlocks⟩ := id C0
  intro v_all x1 H locs ls hf hP hD hS hl
  unfold f_X8_dropNow at hf
  refine lv_aload_n hx hb dX8_dropNow_0 rfl (lv_at hl 0 rfl) ?_
  refine va_get (D := D) (ci := 6) (v := .ref a_this_all) (C := RX8) (T := TX8) (N := 17) hx hb hts (fun _ h => (List.mem_cons_of_mem _ (List.mem_append_right _ h))) hown hK hP 0 rfl rfl 0 (by decide) (hts (.fieldLink RX8 7 "FloatBoxesModel" "all" "[I") (List.mem_cons_of_mem _ (List.mem_append_left _ (List.mem_of_getElem? (i := 0) rfl)))) (fun _ h9 => h9) rfl dX8_dropNow_1 ?_
  refine lv_bipush (v := 13) hx hb dX8_dropNow_4 (by decide) ?_
  refine lv_dup2_11 hx hb dX8_dropNow_6 rfl rfl ?_
  obtain ⟨h7, hf⟩ := o_in_go hf
  refine va_iald hx hb hK hP 1 0 rfl rfl h7 dX8_dropNow_7 ?_
  refine lv_iconst (v := 1) hx hb dX8_dropNow_8 (by decide) ?_
  refine lv_isub hx hb dX8_dropNow_9 ?_
  obtain ⟨h10, hf⟩ := o_in_go hf
  refine va_iast hx hb hK hP hD hS 1 0 rfl rfl h10 dX8_dropNow_10 (fun H locs hP hD hS => ?_)
  replace hP : va_P D vwCl (ww_X8_dropNow cI cM a_this a_this_all a_this_past a_this_refused a_this_box a_this_row a_this_text a_this_numbers a_this_before v_states v_empty v_cut v_rowMany v_taken v_found v_textLong v_at v_stopped (upd v_all (13 : Int32).toNatClampNeg ((v_all (13 : Int32).toNatClampNeg) - 1))) H := hP
  replace hD : va_D A (ww_X8_dropNow cI cM a_this a_this_all a_this_past a_this_refused a_this_box a_this_row a_this_text a_this_numbers a_this_before v_states v_empty v_cut v_rowMany v_taken v_found v_textLong v_at v_stopped (upd v_all (13 : Int32).toNatClampNeg ((v_all (13 : Int32).toNatClampNeg) - 1))) := hD
  refine lv_bipush (v := 14) hx hb dX8_dropNow_11 (by decide) ?_
  refine lv_iconst (v := 4) hx hb dX8_dropNow_13 (by decide) ?_
  refine lv_iload_n hx hb dX8_dropNow_14 rfl (lv_at hl 1 rfl) ?_
  refine lv_imul hx hb dX8_dropNow_15 ?_
  refine lv_iadd hx hb dX8_dropNow_16 ?_
  refine lv_topi (fun t17 et17 => ?_)
  replace hf := o_nm_go et17 hf
  refine lv_istore_n (lv' := [(2, .int t17), (0, .ref a_this), (1, .int x1)]) hx hb dX8_dropNow_17 rfl hl (by decide) rfl (fun ls hl => ?_)
  exact w_X8_dropNow_L18 C0 hA hK N (upd v_all (13 : Int32).toNatClampNeg ((v_all (13 : Int32).toNatClampNeg) - 1)) t17 H locs ls hf hP hD hS (lv_sub hl [1, 0] rfl)
set_option maxHeartbeats 4000000 in
set_option maxRecDepth 100000 in
theorem c_X8_dropNow (l : Launch) (D : va_G) (cI cM : ClassId) (a_this a_this_all a_this_past a_this_refused a_this_box a_this_row a_this_text a_this_numbers a_this_before : Nat) (sz : Nat) (v_states : Int32) (v_empty : Int32) (v_cut : Int32) (v_rowMany : Int32) (v_taken : Int32) (v_found : Int32) (v_textLong : Int32) (v_at : Int32) (v_stopped : Int32) (v_all : Nat → Int32) {N : Nat} {x1 : Int32} {r : Int32} {o_all : Nat → Int32} (hf : f_X8_dropNow N v_all x1 = some (r, o_all)) : Met l yX8_dropNow wsX8_dropNow rm_X8_dropNow (g_Pc D (g_tys cI cM) (ww_X8_dropNow cI cM a_this a_this_all a_this_past a_this_refused a_this_box a_this_row a_this_text a_this_numbers a_this_before v_states v_empty v_cut v_rowMany v_taken v_found v_textLong v_at v_stopped v_all) sz [.ref a_this, .int x1]) (g_QI D (g_tys cI cM) (va_A (ww_X8_dropNow cI cM a_this a_this_all a_this_past a_this_refused a_this_box a_this_row a_this_text a_this_numbers a_this_before v_states v_empty v_cut v_rowMany v_taken v_found v_textLong v_at v_stopped v_all) sz) (ww_X8_dropNow cI cM a_this a_this_all a_this_past a_this_refused a_this_box a_this_row a_this_text a_this_numbers a_this_before v_states v_empty v_cut v_rowMany v_taken v_found v_textLong v_at v_stopped o_all) r) 0 0 (va_A (ww_X8_dropNow cI cM a_this a_this_all a_this_past a_this_refused a_this_box a_this_row a_this_text a_this_numbers a_this_before v_states v_empty v_cut v_rowMany v_taken v_found v_textLong v_at v_stopped v_all) sz) := by
  refine g_met (cc := cX8_dropNow) (maxL := 3) (ret := (some .int)) (Qc := fun D A => g_QI D (g_tys cI cM) A (ww_X8_dropNow cI cM a_this a_this_all a_this_past a_this_refused a_this_box a_this_row a_this_text a_this_numbers a_this_before v_states v_empty v_cut v_rowMany v_taken v_found v_textLong v_at v_stopped o_all) r) (by decide) rfl ?_
  intro p e s m below meth c A C0 hA hK hP hD
  have hl := lv_entry ([.ref a_this, .int x1]) (n := 3) (Nat.le_of_ble_eq_true rfl)
  rw [lg_entry_eq]
  generalize (lg_sl ([.ref a_this, .int x1]) ++ List.replicate (3 - (lg_sl ([.ref a_this, .int x1])).length) Slot.unset).toArray = ls at hl ⊢
  have hl : lv_has ls 3 [(0, .ref a_this), (1, .int x1)] := hl
  exact w_X8_dropNow_B0 C0 hA hK v_all x1 s.heap [] ls hf hP hD va_S.rf (lv_sub hl [0, 1] rfl)
