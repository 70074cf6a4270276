/-! FloatBoxesModel.drops(I)I -/
abbrev rm_X8_drops : Room := { frames := 2, cells := 0, slots := 0, locals := 46 }
abbrev ww_X8_drops (cI cM : ClassId) (a_this a_this_all a_this_past a_this_refused a_this_box a_this_row a_this_text a_this_numbers a_this_before : Nat) (v_states : Int32) (v_empty : Int32) (v_cut : Int32) (v_rowMany : Int32) (v_taken : Int32) (v_found : Int32) (v_textLong : Int32) (v_at : Int32) (v_stopped : Int32) (v_all : Nat → Int32) (v_past : Nat → Int32) (v_refused : Nat → Int32) : va_W := [(a_this, .inr (6, [.ref a_this_all, .ref a_this_past, .int v_states, .ref a_this_refused, .ref a_this_box, .int v_empty, .int v_cut, .ref a_this_row, .int v_rowMany, .int v_taken, .int v_found, .ref a_this_text, .int v_textLong, .int v_at, .ref a_this_numbers, .int v_stopped, .ref a_this_before])), (a_this_all, .inl (cI, 38, .inl v_all)), (a_this_past, .inl (cI, 190, .inl v_past)), (a_this_refused, .inl (cI, 3, .inl v_refused))]
def f_X8_drops (N : Nat) (v_states : Int32) (v_all : Nat → Int32) (v_past : Nat → Int32) (v_refused : Nat → Int32) (x1 : Int32) : Option (Int32 × Int32 × (Nat → Int32) × (Nat → Int32) × (Nat → Int32)) :=
  o_b1 (f_X8_isRule v_all x1) (fun (r2 : Int32) =>
  if r2 = 0 then
    o_b2 (f_X8_refuses v_refused ((-2139095050))) (fun (r11 : Int32) (v_refused_11 : Nat → Int32) =>
    some (r11, v_states, v_all, v_past, v_refused_11))
  else
    o_b2 (f_X8_keep N v_all v_states v_past) (fun (v_states_16 : Int32) (v_past_16 : Nat → Int32) =>
    o_b2 (f_X8_dropNow N v_all x1) (fun (r21 : Int32) (v_all_21 : Nat → Int32) =>
    some (r21, v_states_16, v_all_21, v_past_16, v_refused))))
set_option maxHeartbeats 4000000 in
set_option maxRecDepth 100000 in
theorem w_X8_drops_B0 {p : Program} {l : Launch} {e : Env} {s : State} {m : MethodId} {args : Array Value} {below : List Frame} {meth : Method} {c : Code} {D : va_G} {cI cM : ClassId} {A : Nat → Prop} {a_this a_this_all a_this_past a_this_refused a_this_box a_this_row a_this_text a_this_numbers a_this_before : Nat} {v_empty : Int32} {v_cut : Int32} {v_rowMany : Int32} {v_taken : Int32} {v_found : Int32} {v_textLong : Int32} {v_at : Int32} {v_stopped : Int32} {N : Nat} {r : Int32} {o_states : Int32} {o_all : Nat → Int32} {o_past : Nat → Int32} {o_refused : Nat → Int32} (C0 : g_cx cX8_drops (some .int) 2 RX8 wsX8_drops p s m args meth c) (hA : ∀ q, s.heap.size ≤ q → A q) (hK : va_K D vwCl (g_tys cI cM) s) : ∀ (v_states : Int32) (v_all : Nat → Int32) (v_past : Nat → Int32) (v_refused : Nat → Int32) (x1 : Int32) (H : Heap) (locs : List Loc) (ls : Array Slot), f_X8_drops N v_states v_all v_past v_refused x1 = some (r, o_states, o_all, o_past, o_refused) → va_P D vwCl (ww_X8_drops cI cM a_this a_this_all a_this_past a_this_refused a_this_box a_this_row a_this_text a_this_numbers a_this_before v_states v_empty v_cut v_rowMany v_taken v_found v_textLong v_at v_stopped v_all v_past v_refused) H → va_D A (ww_X8_drops cI cM a_this a_this_all a_this_past a_this_refused a_this_box a_this_row a_this_text a_this_numbers a_this_before v_states v_empty v_cut v_rowMany v_taken v_found v_textLong v_at v_stopped v_all v_past v_refused) → va_S A s.heap H locs → lv_has ls 2 [(0, .ref a_this), (1, .int x1)] → W p l e rm_X8_drops s m args below meth c H locs 0 0 (MQ below (g_QI D (g_tys cI cM) A (ww_X8_drops cI cM a_this a_this_all a_this_past a_this_refused a_this_box a_this_row a_this_text a_this_numbers a_this_before o_states v_empty v_cut v_rowMany v_taken v_found v_textLong v_at v_stopped o_all o_past o_refused) r) args s 0 0 A) (F0 m 0 ls []) := by
  obtain ⟨hx, hb, hr, hml, hown, hts, hlocks⟩ := id C0
  intro v_states v_all v_past v_refused x1 H locs ls hf hP hD hS hl
  unfold f_X8_drops at hf
  refine lv_aload_n hx hb dX8_drops_0 rfl (lv_at hl 0 rfl) ?_
  refine lv_iload_n hx hb dX8_drops_1 rfl (lv_at hl 1 rfl) ?_
  obtain ⟨r2, hg2, hf⟩ := o_b1_go hf
  refine g_callVi (wn := (ww_X8_drops cI cM a_this a_this_all a_this_past a_this_refused a_this_box a_this_row a_this_text a_this_numbers a_this_before v_states v_empty v_cut v_rowMany v_taken v_found v_textLong v_at v_stopped v_all v_past v_refused)) (rest := []) ⟨hx, hb, hml, hown, hts⟩ (c_X8_isRule l D cI cM a_this a_this_all a_this_past a_this_refused a_this_box a_this_row a_this_text a_this_numbers a_this_before H.size v_states v_empty v_cut v_rowMany v_taken v_found v_textLong v_at v_stopped v_all hg2) (cwV 1 hts gX8_drops_X8_isRule rfl rfl rfl (by decide +kernel) ⟨Nat.le_of_ble_eq_true rfl, Nat.le_of_ble_eq_true rfl⟩) hK hP hD hS hA [0, 1] [2, 3] [2, 3, 0, 1] rfl rfl rfl rfl rfl rfl (by decide) rfl rfl rfl hl.1 rfl (Nat.le_of_ble_eq_true rfl) dX8_drops_2 (fun H locs hP hD hS => ?_)
  refine lv_if_ne (tgt := 15) hx hb dX8_drops_5 (by decide) (fun c5 => ?_) (fun c5 => ?_)
  · replace hf := o_f c5 hf
    refine lv_aload_n hx hb dX8_drops_15 rfl (lv_at hl 0 rfl) ?_
    obtain ⟨v_states_16, v_past_16, hg16, hf⟩ := o_b2_go hf
    refine g_callVv (wn := (ww_X8_drops cI cM a_this a_this_all a_this_past a_this_refused a_this_box a_this_row a_this_text a_this_numbers a_this_before v_states_16 v_empty v_cut v_rowMany v_taken v_found v_textLong v_at v_stopped v_all v_past_16 v_refused)) (rest := []) ⟨hx, hb, hml, hown, hts⟩ (c_X8_keep l D cI cM a_this a_this_all a_this_past a_this_refused a_this_box a_this_row a_this_text a_this_numbers a_this_before H.size v_states v_empty v_cut v_rowMany v_taken v_found v_textLong v_at v_stopped v_all v_past hg16) (cwV 0 hts gX8_drops_X8_keep rfl rfl rfl (by decide +kernel) ⟨Nat.le_of_ble_eq_true rfl, Nat.le_of_ble_eq_true rfl⟩) hK hP hD hS hA [0, 1, 2] [3] [1, 2, 3, 0] rfl rfl rfl rfl rfl rfl (by decide) rfl rfl rfl hl.1 rfl (Nat.le_of_ble_eq_true rfl) dX8_drops_16 (fun H locs hP hD hS => ?_)
    refine lv_aload_n hx hb dX8_drops_19 rfl (lv_at hl 0 rfl) ?_
    refine lv_iload_n hx hb dX8_drops_20 rfl (lv_at hl 1 rfl) ?_
    obtain ⟨r21, v_all_21, hg21, hf⟩ := o_b2_go hf
    refine g_callVi (wn := (ww_X8_drops cI cM a_this a_this_all a_this_past a_this_refused a_this_box a_this_row a_this_text a_this_numbers a_this_before v_states_16 v_empty v_cut v_rowMany v_taken v_found v_textLong v_at v_stopped v_all_21 v_past_16 v_refused)) (rest := []) ⟨hx, hb, hml, hown, hts⟩ (c_X8_dropNow l D cI cM a_this a_this_all a_this_past a_this_refused a_this_box a_this_row a_this_text a_this_numbers a_this_before H.size v_states_16 v_empty v_cut v_rowMany v_taken v_found v_textLong v_at v_stopped v_all hg21) (cwV 1 hts gX8_drops_X8_dropNow rfl rfl rfl (by decide +kernel) ⟨Nat.le_of_ble_eq_true rfl, Nat.le_of_ble_eq_true rfl⟩) hK hP hD hS hA [0, 1] [2, 3] [2, 3, 0, 1] rfl rfl rfl rfl rfl rfl (by decide) rfl rfl rfl hl.1 rfl (Nat.le_of_ble_eq_true rfl) dX8_drops_21 (fun H locs hP hD hS => ?_)
    obtain ⟨q0, y0⟩ := o_rp hf
    obtain ⟨q1, y1⟩ := o_rp y0
    obtain ⟨q2, y2⟩ := o_rp y1
    obtain ⟨q3, y3⟩ := o_rp y2
    have q4 := Option.some.inj y3
    subst q0 q1 q2 q3 q4
    exact g_iret hx hb hr hlocks hP hD hK hS dX8_drops_24
  · replace hf := o_t c5 hf
    refine lv_aload_n hx hb dX8_drops_8 rfl (lv_at hl 0 rfl) ?_
    refine lv_ldc (v := (-2139095050)) hx hb hown (hts (.constant RX8 42 (-2139095050)) (List.mem_cons_of_mem _ (List.mem_append_left _ (List.mem_append_left _ (List.mem_of_getElem? (i := 0) rfl))))) dX8_drops_9 ?_
    obtain ⟨r11, v_refused_11, hg11, hf⟩ := o_b2_go hf
    refine g_callVi (wn := (ww_X8_drops cI cM a_this a_this_all a_this_past a_this_refused a_this_box a_this_row a_this_text a_this_numbers a_this_before v_states v_empty v_cut v_rowMany v_taken v_found v_textLong v_at v_stopped v_all v_past v_refused_11)) (rest := []) ⟨hx, hb, hml, hown, hts⟩ (c_X8_refuses l D cI cM a_this a_this_all a_this_past a_this_refused a_this_box a_this_row a_this_text a_this_numbers a_this_before H.size v_states v_empty v_cut v_rowMany v_taken v_found v_textLong v_at v_stopped v_refused hg11) (cwV 1 hts gX8_drops_X8_refuses rfl rfl rfl (by decide +kernel) ⟨Nat.le_of_ble_eq_true rfl, Nat.le_of_ble_eq_true rfl⟩) hK hP hD hS hA [0, 3] [1, 2] [2, 0, 1, 3] rfl rfl rfl rfl rfl rfl (by decide) rfl rfl rfl hl.1 rfl (Nat.le_of_ble_eq_true rfl) dX8_drops_11 (fun H locs hP hD hS => ?_)
    obtain ⟨q0, y0⟩ := o_rp hf
    obtain ⟨q1, y1⟩ := o_rp y0
    obtain ⟨q2, y2⟩ := o_rp y1
    obtain ⟨q3, y3⟩ := o_rp y2
    have q4 := Option.some.inj y3
    subst q0 q1 q2 q3 q4
    exact g_iret hx hb hr hlocks hP hD hK hS dX8_drops_14
set_option maxHeartbeats 4000000 in
set_option maxRecDepth 100000 in
theorem c_X8_drops (l : Launch) (D : va_G) (cI cM : ClassId) (a_this a_this_all a_this_past a_this_refused a_this_box a_this_row a_this_text a_this_numbers a_this_before : Nat) (sz : Nat) (v_states : Int32) (v_empty : Int32) (v_cut : Int32) (v_rowMany : Int32) (v_taken : Int32) (v_found : Int32) (v_textLong : Int32) (v_at : Int32) (v_stopped : Int32) (v_all : Nat → Int32) (v_past : Nat → Int32) (v_refused : Nat → Int32) {N : Nat} {x1 : Int32} {r : Int32} {o_states : Int32} {o_all : Nat → Int32} {o_past : Nat → Int32} {o_refused : Nat → Int32} (hf : f_X8_drops N v_states v_all v_past v_refused x1 = some (r, o_states, o_all, o_past, o_refused)) : Met l yX8_drops wsX8_drops rm_X8_drops (g_Pc D (g_tys cI cM) (ww_X8_drops cI cM a_this a_this_all a_this_past a_this_refused a_this_box a_this_row a_this_text a_this_numbers a_this_before v_states v_empty v_cut v_rowMany v_taken v_found v_textLong v_at v_stopped v_all v_past v_refused) sz [.ref a_this, .int x1]) (g_QI D (g_tys cI cM) (va_A (ww_X8_drops cI cM a_this a_this_all a_this_past a_this_refused a_this_box a_this_row a_this_text a_this_numbers a_this_before v_states v_empty v_cut v_rowMany v_taken v_found v_textLong v_at v_stopped v_all v_past v_refused) sz) (ww_X8_drops cI cM a_this a_this_all a_this_past a_this_refused a_this_box a_this_row a_this_text a_this_numbers a_this_before o_states v_empty v_cut v_rowMany v_taken v_found v_textLong v_at v_stopped o_all o_past o_refused) r) 0 0 (va_A (ww_X8_drops cI cM a_this a_this_all a_this_past a_this_refused a_this_box a_this_row a_this_text a_this_numbers a_this_before v_states v_empty v_cut v_rowMany v_taken v_found v_textLong v_at v_stopped v_all v_past v_refused) sz) := by
  refine g_met (cc := cX8_drops) (maxL := 2) (ret := (some .int)) (Qc := fun D A => g_QI D (g_tys cI cM) A (ww_X8_drops cI cM a_this a_this_all a_this_past a_this_refused a_this_box a_this_row a_this_text a_this_numbers a_this_before o_states v_empty v_cut v_rowMany v_taken v_found v_textLong v_at v_stopped o_all o_past o_refused) r) (by decide) rfl ?_
  intro p e s m below meth c A C0 hA hK hP hD
  have hl := lv_entry ([.ref a_this, .int x1]) (n := 2) (Nat.le_of_ble_eq_true rfl)
  rw [lg_entry_eq]
  generalize (lg_sl ([.ref a_this, .int x1]) ++ List.replicate (2 - (lg_sl ([.ref a_this, .int x1])).length) Slot.unset).toArray = ls at hl ⊢
  have hl : lv_has ls 2 [(0, .ref a_this), (1, .int x1)] := hl
  exact w_X8_drops_B0 C0 hA hK v_states v_all v_past v_refused x1 s.heap [] ls hf hP hD va_S.rf (lv_sub hl [0, 1] rfl)
/-! FloatBoxesModel.low(I)I -/
abbrev rm_X8_low : Room := { frames := 0, cells := 0, slots := 0, locals := 0 }
abbrev ww_X8_low (cI cM : ClassId) (a_this a_this_all a_this_past a_this_refused a_this_box a_this_row a_this_text a_this_numbers a_this_before : Nat) (v_states : Int32) (v_empty : Int32) (v_cut : Int32) (v_rowMany : Int32) (v_taken : Int32) (v_found : Int32) (v_textLong : Int32) (v_at : Int32) (v_stopped : Int32) (v_box : Nat → Int32) : va_W := [(a_this, .inr (6, [.ref a_this_all, .ref a_this_past, .int v_states, .ref a_this_refused, .ref a_this_box, .int v_empty, .int v_cut, .ref a_this_row, .int v_rowMany, .int v_taken, .int v_found, .ref a_this_text, .int v_textLong, .int v_at, .ref a_this_numbers, .int v_stopped, .ref a_this_before])), (a_this_box, .inl (cI, 12, .inl v_box))]
def f_X8_low (v_box : Nat → Int32) (x1 : Int32) : Option (Int32) :=
  o_in (2 * x1) 12 (
  some (v_box (2 * x1).toNatClampNeg))
set_option maxHeartbeats 4000000 in
set_option maxRecDepth 100000 in
theorem w_X8_low_B0 {p : Program} {l : Launch} {e : Env} {s : State} {m : MethodId} {args : Array Value} {below : List Frame} {meth : Method} {c : Code} {D : va_G} {cI cM : ClassId} {A : Nat → Prop} {a_this a_this_all a_this_past a_this_refused a_this_box a_this_row a_this_text a_this_numbers a_this_before : Nat} {v_states : Int32} {v_empty : Int32} {v_cut : Int32} {v_rowMany : Int32} {v_taken : Int32} {v_found : Int32} {v_textLong : Int32} {v_at : Int32} {v_stopped : Int32} {v_box : Nat → Int32} {r : Int32} (C0 : g_cx cX8_low (some .int) 2 RX8 wsX8_low p s m args meth c) (hA : ∀ q, s.heap.size ≤ q → A q) (hK : va_K D vwCl (g_tys cI cM) s) : ∀ (x1 : Int32) (H : Heap) (locs : List Loc) (ls : Array Slot), f_X8_low v_box x1 = some r → va_P D vwCl (ww_X8_low cI cM a_this a_this_all a_this_past a_this_refused a_this_box a_this_row a_this_text a_this_numbers a_this_before v_states v_empty v_cut v_rowMany v_taken v_found v_textLong v_at v_stopped v_box) H → va_D A (ww_X8_low cI cM a_this a_this_all a_this_past a_this_refused a_this_box a_this_row a_this_text a_this_numbers a_this_before v_states v_empty v_cut v_rowMany v_taken v_found v_textLong v_at v_stopped v_box) → va_S A s.heap H locs → lv_has ls 2 [(0, .ref a_this), (1, .int x1)] → W p l e rm_X8_low s m args below meth c H locs 0 0 (MQ below (g_QI D (g_tys cI cM) A (ww_X8_low cI cM a_this a_this_all a_this_past a_this_refused a_this_box a_this_row a_this_text a_this_numbers a_this_before v_states v_empty v_cut v_rowMany v_taken v_found v_textLong v_at v_stopped v_box) r) args s 0 0 A) (F0 m 0 ls []) := by
  obtain ⟨hx, hb, hr, hml, hown, hts, hlocks⟩ := id C0
  intro x1 H locs ls hf hP hD hS hl
  unfold f_X8_low at hf
  refine lv_aload_n hx hb dX8_low_0 rfl (lv_at hl 0 rfl) ?_
  refine va_get (D := D) (ci := 6) (v := .ref a_this_box) (C := RX8) (T := TX8) (N := 17) hx hb hts (fun _ h => (List.mem_cons_of_mem _ (List.mem_append_right _ h))) hown hK hP 0 rfl rfl 4 (by decide) (hts (.fieldLink RX8 19 "FloatBoxesModel" "box" "[I") (List.mem_cons_of_mem _ (List.mem_append_left _ (List.mem_of_getElem? (i := 0) rfl)))) (fun _ h9 => h9) rfl dX8_low_1 ?_
  refine lv_iconst (v := 2) hx hb dX8_low_4 (by decide) ?_
  refine lv_iload_n hx hb dX8_low_5 rfl (lv_at hl 1 rfl) ?_
  refine lv_imul hx hb dX8_low_6 ?_
  obtain ⟨h7, hf⟩ := o_in_go hf
  refine va_iald hx hb hK hP 1 0 rfl rfl h7 dX8_low_7 ?_
  have q0 := Option.some.inj hf
  subst q0
  exact g_iret hx hb hr hlocks hP hD hK hS dX8_low_8
set_option maxHeartbeats 4000000 in
set_option maxRecDepth 100000 in
theorem c_X8_low (l : Launch) (D : va_G) (cI cM : ClassId) (a_this a_this_all a_this_past a_this_refused a_this_box a_this_row a_this_text a_this_numbers a_this_before : Nat) (sz : Nat) (v_states : Int32) (v_empty : Int32) (v_cut : Int32) (v_rowMany : Int32) (v_taken : Int32) (v_found : Int32) (v_textLong : Int32) (v_at : Int32) (v_stopped : Int32) (v_box : Nat → Int32) {x1 : Int32} {r : Int32} (hf : f_X8_low v_box x1 = some r) : Met l yX8_low wsX8_low rm_X8_low (g_Pc D (g_tys cI cM) (ww_X8_low cI cM a_this a_this_all a_this_past a_this_refused a_this_box a_this_row a_this_text a_this_numbers a_this_before v_states v_empty v_cut v_rowMany v_taken v_found v_textLong v_at v_stopped v_box) sz [.ref a_this, .int x1]) (g_QI D (g_tys cI cM) (va_A (ww_X8_low cI cM a_this a_this_all a_this_past a_this_refused a_this_box a_this_row a_this_text a_this_numbers a_this_before v_states v_empty v_cut v_rowMany v_taken v_found v_textLong v_at v_stopped v_box) sz) (ww_X8_low cI cM a_this a_this_all a_this_past a_this_refused a_this_box a_this_row a_this_text a_this_numbers a_this_before v_states v_empty v_cut v_rowMany v_taken v_found v_textLong v_at v_stopped v_box) r) 0 0 (va_A (ww_X8_low cI cM a_this a_this_all a_this_past a_this_refused a_this_box a_this_row a_this_text a_this_numbers a_this_before v_states v_empty v_cut v_rowMany v_taken v_found v_textLong v_at v_stopped v_box) sz) := by
  refine g_met (cc := cX8_low) (maxL := 2) (ret := (some .int)) (Qc := fun D A => g_QI D (g_tys cI cM) A (ww_X8_low cI cM a_this a_this_all a_this_past a_this_refused a_this_box a_this_row a_this_text a_this_numbers a_this_before v_states v_empty v_cut v_rowMany v_taken v_found v_textLong v_at v_stopped v_box) r) (by decide) rfl ?_
  intro p e s m below meth c A C0 hA hK hP hD
  have hl := lv_entry ([.ref a_this, .int x1]) (n := 2) (Nat.le_of_ble_eq_true rfl)
  rw [lg_entry_eq]
  generalize (lg_sl ([.ref a_this, .int x1]) ++ List.replicate (2 - (lg_sl ([.ref a_this, .int x1])).length) Slot.unset).toArray = ls at hl ⊢
  have hl : lv_has ls 2 [(0, .ref a_this), (1, .int x1)] := hl
  exact w_X8_low_B0 C0 hA hK x1 s.heap [] ls hf hP hD va_S.rf (lv_sub hl [0, 1] rfl)
/-! FloatBoxesModel.high(I)I -/
abbrev rm_X8_high : Room := { frames := 0, cells := 0, slots := 0, locals := 0 }
abbrev ww_X8_high (cI cM : ClassId) (a_this a_this_all a_this_past a_this_refused a_this_box a_this_row a_this_text a_this_numbers a_this_before : Nat) (v_states : Int32) (v_empty : Int32) (v_cut : Int32) (v_rowMany : Int32) (v_taken : Int32) (v_found : Int32) (v_textLong : Int32) (v_at : Int32) (v_stopped : Int32) (v_box : Nat → Int32) : va_W := [(a_this, .inr (6, [.ref a_this_all, .ref a_this_past, .int v_states, .ref a_this_refused, .ref a_this_box, .int v_empty, .int v_cut, .ref a_this_row, .int v_rowMany, .int v_taken, .int v_found, .ref a_this_text, .int v_textLong, .int v_at, .ref a_this_numbers, .int v_stopped, .ref a_this_before])), (a_this_box, .inl (cI, 12, .inl v_box))]
def f_X8_high (v_box : Nat → Int32) (x1 : Int32) : Option (Int32) :=
  o_in ((2 * x1) + 1) 12 (
  some (v_box ((2 * x1) + 1).toNatClampNeg))
set_option maxHeartbeats 4000000 in
set_option maxRecDepth 100000 in
theorem w_X8_high_B0 {p : Program} {l : Launch} {e : Env} {s : State} {m : MethodId} {args : Array Value} {below : List Frame} {meth : Method} {c : Code} {D : va_G} {cI cM : ClassId} {A : Nat → Prop} {a_this a_this_all a_this_past a_this_refused a_this_box a_this_row a_this_text a_this_numbers a_this_before : Nat} {v_states : Int32} {v_empty : Int32} {v_cut : Int32} {v_rowMany : Int32} {v_taken : Int32} {v_found : Int32} {v_textLong : Int32} {v_at : Int32} {v_stopped : Int32} {v_box : Nat → Int32} {r : Int32} (C0 : g_cx cX8_high (some .int) 2 RX8 wsX8_high p s m args meth c) (hA : ∀ q, s.heap.size ≤ q → A q) (hK : va_K D vwCl (g_tys cI cM) s) : ∀ (x1 : Int32) (H : Heap) (locs : List Loc) (ls : Array Slot), f_X8_high v_box x1 = some r → va_P D vwCl (ww_X8_high cI cM a_this a_this_all a_this_past a_this_refused a_this_box a_this_row a_this_text a_this_numbers a_this_before v_states v_empty v_cut v_rowMany v_taken v_found v_textLong v_at v_stopped v_box) H → va_D A (ww_X8_high cI cM a_this a_this_all a_this_past a_this_refused a_this_box a_this_row a_this_text a_this_numbers a_this_before v_states v_empty v_cut v_rowMany v_taken v_found v_textLong v_at v_stopped v_box) → va_S A s.heap H locs → lv_has ls 2 [(0, .ref a_this), (1, .int x1)] → W p l e rm_X8_high s m args below meth c H locs 0 0 (MQ below (g_QI D (g_tys cI cM) A (ww_X8_high cI cM a_this a_this_all a_this_past a_this_refused a_this_box a_this_row a_this_text a_this_numbers a_this_before v_states v_empty v_cut v_rowMany v_taken v_found v_textLong v_at v_stopped v_box) r) args s 0 0 A) (F0 m 0 ls []) := by
  obtain ⟨hx, hb, hr, hml, hown, hts, hlocks⟩ := id C0
  intro x1 H locs ls hf hP hD hS hl
  unfold f_X8_high at hf
  refine lv_aload_n hx hb dX8_high_0 rfl (lv_at hl 0 rfl) ?_
  refine va_get (D := D) (ci := 6) (v := .ref a_this_box) (C := RX8) (T := TX8) (N := 17) hx hb hts (fun _ h => (List.mem_cons_of_mem _ (List.mem_append_right _ h))) hown hK hP 0 rfl rfl 4 (by decide) (hts (.fieldLink RX8 19 "FloatBoxesModel" "box" "[I") (List.mem_cons_of_mem _ (List.mem_append_left _ (List.mem_of_getElem? (i := 0) rfl)))) (fun _ h9 => h9) rfl dX8_high_1 ?_
  refine lv_iconst (v := 2) hx hb dX8_high_4 (by decide) ?_
  refine lv_iload_n hx hb dX8_high_5 rfl (lv_at hl 1 rfl) ?_
  refine lv_imul hx hb dX8_high_6 ?_
  refine lv_iconst (v := 1) hx hb dX8_high_7 (by decide) ?_
  refine lv_iadd hx hb dX8_high_8 ?_
  obtain ⟨h9, hf⟩ := o_in_go hf
  refine va_iald hx hb hK hP 1 0 rfl rfl h9 dX8_high_9 ?_
  have q0 := Option.some.inj hf
  subst q0
  exact g_iret hx hb hr hlocks hP hD hK hS dX8_high_10
set_option maxHeartbeats 4000000 in
set_option maxRecDepth 100000 in
theorem c_X8_high (l : Launch) (D : va_G) (cI cM : ClassId) (a_this a_this_all a_this_past a_this_refused a_this_box a_this_row a_this_text a_this_numbers a_this_before : Nat) (sz : Nat) (v_states : Int32) (v_empty : Int32) (v_cut : Int32) (v_rowMany : Int32) (v_taken : Int32) (v_found : Int32) (v_textLong : Int32) (v_at : Int32) (v_stopped : Int32) (v_box : Nat → Int32) {x1 : Int32} {r : Int32} (hf : f_X8_high v_box x1 = some r) : Met l yX8_high wsX8_high rm_X8_high (g_Pc D (g_tys cI cM) (ww_X8_high cI cM a_this a_this_all a_this_past a_this_refused a_this_box a_this_row a_this_text a_this_numbers a_this_before v_states v_empty v_cut v_rowMany v_taken v_found v_textLong v_at v_stopped v_box) sz [.ref a_this, .int x1]) (g_QI D (g_tys cI cM) (va_A (ww_X8_high cI cM a_this a_this_all a_this_past a_this_refused a_this_box a_this_row a_this_text a_this_numbers a_this_before v_states v_empty v_cut v_rowMany v_taken v_found v_textLong v_at v_stopped v_box) sz) (ww_X8_high cI cM a_this a_this_all a_this_past a_this_refused a_this_box a_this_row a_this_text a_this_numbers a_this_before v_states v_empty v_cut v_rowMany v_taken v_found v_textLong v_at v_stopped v_box) r) 0 0 (va_A (ww_X8_high cI cM a_this a_this_all a_this_past a_this_refused a_this_box a_this_row a_this_text a_this_numbers a_this_before v_states v_empty v_cut v_rowMany v_taken v_found v_textLong v_at v_stopped v_box) sz) := by
  refine g_met (cc := cX8_high) (maxL := 2) (ret := (some .int)) (Qc := fun D A => g_QI D (g_tys cI cM) A (ww_X8_high cI cM a_this a_this_all a_this_past a_this_refused a_this_box a_this_row a_this_text a_this_numbers a_this_before v_states v_empty v_cut v_rowMany v_taken v_found v_textLong v_at v_stopped v_box) r) (by decide) rfl ?_
  intro p e s m below meth c A C0 hA hK hP hD
  have hl := lv_entry ([.ref a_this, .int x1]) (n := 2) (Nat.le_of_ble_eq_true rfl)
  rw [lg_entry_eq]
  generalize (lg_sl ([.ref a_this, .int x1]) ++ List.replicate (2 - (lg_sl ([.ref a_this, .int x1])).length) Slot.unset).toArray = ls at hl ⊢
  have hl : lv_has ls 2 [(0, .ref a_this), (1, .int x1)] := hl
  exact w_X8_high_B0 C0 hA hK x1 s.heap [] ls hf hP hD va_S.rf (lv_sub hl [0, 1] rfl)
/-! FloatBoxesModel.laysBox()V -/
abbrev rm_X8_laysBox : Room := { frames := 1, cells := 0, slots := 0, locals := 21 }
abbrev ww_X8_laysBox (cI cM : ClassId) (a_this a_this_all a_this_past a_this_refused a_this_box a_this_row a_this_text a_this_numbers a_this_before : Nat) (v_states : Int32) (v_empty : Int32) (v_cut : Int32) (v_rowMany : Int32) (v_taken : Int32) (v_found : Int32) (v_textLong : Int32) (v_at : Int32) (v_stopped : Int32) (v_all : Nat → Int32) (v_box : Nat → Int32) : va_W := [(a_this, .inr (6, [.ref a_this_all, .ref a_this_past, .int v_states, .ref a_this_refused, .ref a_this_box, .int v_empty, .int v_cut, .ref a_this_row, .int v_rowMany, .int v_taken, .int v_found, .ref a_this_text, .int v_textLong, .int v_at, .ref a_this_numbers, .int v_stopped, .ref a_this_before])), (a_this_all, .inl (cI, 38, .inl v_all)), (a_this_box, .inl (cI, 12, .inl v_box))]
def f_X8_laysBox_C2 (N : Nat) (v_all : Nat → Int32) (k2 : Int32 → (Nat → Int32) → Int32 → Option (Int32 × (Nat → Int32))) (v_empty : Int32) (v_box : Nat → Int32) (x1 : Int32) : Option (Int32 × (Nat → Int32)) :=
  o_b1 (f_X8_unknowns v_all) (fun (r4 : Int32) =>
  if r4 ≤ x1 then
    some (0, v_box)
  else
    o_b1 (f_X8_lowAt v_all x1) (fun (r19 : Int32) =>
    o_in (2 * x1) 12 (
    o_b1 (f_X8_highAt v_all x1) (fun (r34 : Int32) =>
    o_in ((2 * x1) + 1) 12 (
    k2 v_empty (upd (upd v_box (2 * x1).toNatClampNeg r19) ((2 * x1) + 1).toNatClampNeg r34) (x1 + 1))))))
def f_X8_laysBox_L2 (N : Nat) (v_all : Nat → Int32) : Nat → Int32 → (Nat → Int32) → Int32 → Option (Int32 × (Nat → Int32))
  | 0 => fun _ _ _ => none
  | n + 1 => f_X8_laysBox_C2 N v_all (f_X8_laysBox_L2 N v_all n)
set_option maxHeartbeats 4000000 in
set_option maxRecDepth 100000 in
theorem w_X8_laysBox_C2 {p : Program} {l : Launch} {e : Env} {s : State} {m : MethodId} {args : Array Value} {below : List Frame} {meth : Method} {c : Code} {D : va_G} {cI cM : ClassId} {A : Nat → Prop} {a_this a_this_all a_this_past a_this_refused a_this_box a_this_row a_this_text a_this_numbers a_this_before : Nat} {v_states : Int32} {v_cut : Int32} {v_rowMany : Int32} {v_taken : Int32} {v_found : Int32} {v_textLong : Int32} {v_at : Int32} {v_stopped : Int32} {N : Nat} {v_all : Nat → Int32} {o_empty : Int32} {o_box : Nat → Int32} (C0 : g_cx cX8_laysBox none 2 RX8 wsX8_laysBox p s m args meth c) (hA : ∀ q, s.heap.size ≤ q → A q) (hK : va_K D vwCl (g_tys cI cM) s) (k2 : Int32 → (Nat → Int32) → Int32 → Option (Int32 × (Nat → Int32))) (hk2 : ∀ (v_empty : Int32) (v_box : Nat → Int32) (x1 : Int32) (H : Heap) (locs : List Loc) (ls : Array Slot), k2 v_empty v_box x1 = some (o_empty, o_box) → va_P D vwCl (ww_X8_laysBox cI cM a_this a_this_all a_this_past a_this_refused a_this_box a_this_row a_this_text a_this_numbers a_this_before v_states v_empty v_cut v_rowMany v_taken v_found v_textLong v_at v_stopped v_all v_box) H → va_D A (ww_X8_laysBox cI cM a_this a_this_all a_this_past a_this_refused a_this_box a_this_row a_this_text a_this_numbers a_this_before v_states v_empty v_cut v_rowMany v_taken v_found v_textLong v_at v_stopped v_all v_box) → va_S A s.heap H locs → lv_has ls 2 [(0, .ref a_this), (1, .int x1)] → W p l e rm_X8_laysBox s m args below meth c H locs 0 0 (MQ below (g_QV D (g_tys cI cM) A (ww_X8_laysBox cI cM a_this a_this_all a_this_past a_this_refused a_this_box a_this_row a_this_text a_this_numbers a_this_before v_states o_empty v_cut v_rowMany v_taken v_found v_textLong v_at v_stopped v_all o_box)) args s 0 0 A) (F0 m 2 ls [])) : ∀ (v_empty : Int32) (v_box : Nat → Int32) (x1 : Int32) (H : Heap) (locs : List Loc) (ls : Array Slot), f_X8_laysBox_C2 N v_all k2 v_empty v_box x1 = some (o_empty, o_box) → va_P D vwCl (ww_X8_laysBox cI cM a_this a_this_all a_this_past a_this_refused a_this_box a_this_row a_this_text a_this_numbers a_this_before v_states v_empty v_cut v_rowMany v_taken v_found v_textLong v_at v_stopped v_all v_box) H → va_D A (ww_X8_laysBox cI cM a_this a_this_all a_this_past a_this_refused a_this_box a_this_row a_this_text a_this_numbers a_this_before v_states v_empty v_cut v_rowMany v_taken v_found v_textLong v_at v_stopped v_all v_box) → va_S A s.heap H locs → lv_has ls 2 [(0, .ref a_this), (1, .int x1)] → W p l e rm_X8_laysBox s m args below meth c H locs 0 0 (MQ below (g_QV D (g_tys cI cM) A (ww_X8_laysBox cI cM a_this a_this_all a_this_past a_this_refused a_this_box a_this_row a_this_text a_this_numbers a_this_before v_states o_empty v_cut v_rowMany v_taken v_found v_textLong v_at v_stopped v_all o_box)) args s 0 0 A) (F0 m 2 ls []) := by
  obtain ⟨hx, hb, hr, hml, hown, hts, hlocks⟩ := id C0
  intro v_empty v_box x1 H locs ls hf hP hD hS hl
  unfold f_X8_laysBox_C2 at hf
  refine lv_iload_n hx hb dX8_laysBox_2 rfl (lv_at hl 1 rfl) ?_
  refine lv_aload_n hx hb dX8_laysBox_3 rfl (lv_at hl 0 rfl) ?_
  obtain ⟨r4, hg4, hf⟩ := o_b1_go hf
  refine g_callVi (wn := (ww_X8_laysBox cI cM a_this a_this_all a_this_past a_this_refused a_this_box a_this_row a_this_text a_this_numbers a_this_before v_states v_empty v_cut v_rowMany v_taken v_found v_textLong v_at v_stopped v_all v_box)) (rest := [.int x1]) ⟨hx, hb, hml, hown, hts⟩ (c_X8_unknowns l D cI cM a_this a_this_all a_this_past a_this_refused a_this_box a_this_row a_this_text a_this_numbers a_this_before H.size v_states v_empty v_cut v_rowMany v_taken v_found v_textLong v_at v_stopped v_all hg4) (cwV 0 hts gX8_laysBox_X8_unknowns rfl rfl rfl (by decide +kernel) ⟨Nat.le_of_ble_eq_true rfl, Nat.le_of_ble_eq_true rfl⟩) hK hP hD hS hA [0, 1] [2] [1, 2, 0] rfl rfl rfl rfl rfl rfl (by decide) rfl rfl rfl hl.1 rfl (Nat.le_of_ble_eq_true rfl) dX8_laysBox_4 (fun H locs hP hD hS => ?_)
  refine lv_icmp_ge (tgt := 44) hx hb dX8_laysBox_7 (by decide) (fun c7 => ?_) (fun c7 => ?_)
  · replace hf := o_t c7 hf
    refine lv_aload_n hx hb dX8_laysBox_44 rfl (lv_at hl 0 rfl) ?_
    refine lv_iconst (v := 0) hx hb dX8_laysBox_45 (by decide) ?_
    refine va_put (D := D) (ci := 6) (v := .int 0) (ty := .boolean) (C := RX8) (T := TX8) (N := 17) hx hb hts (fun _ h => (List.mem_cons_of_mem _ (List.mem_append_right _ h))) tyX8 tyX8_ok nmX8 hown hK hP hD hS 0 rfl rfl 5 (by decide) (hts (.fieldLink RX8 124 "FloatBoxesModel" "empty" "Z") (List.mem_cons_of_mem _ (List.mem_append_left _ (List.mem_of_getElem? (i := 1) rfl)))) (fun _ h9 => h9) rfl (by decide +kernel) (by decide) (by decide) (Nat.le_of_ble_eq_true rfl) dX8_laysBox_46 (fun H locs hP hD hS => ?_)
    replace hP : va_P D vwCl (ww_X8_laysBox cI cM a_this a_this_all a_this_past a_this_refused a_this_box a_this_row a_this_text a_this_numbers a_this_before v_states 0 v_cut v_rowMany v_taken v_found v_textLong v_at v_stopped v_all v_box) H := hP
    replace hD : va_D A (ww_X8_laysBox cI cM a_this a_this_all a_this_past a_this_refused a_this_box a_this_row a_this_text a_this_numbers a_this_before v_states 0 v_cut v_rowMany v_taken v_found v_textLong v_at v_stopped v_all v_box) := hD
    obtain ⟨q0, y0⟩ := o_rp hf
    have q1 := Option.some.inj y0
    subst q0 q1
    exact g_vret hx hb hr hlocks hP hD hK hS dX8_laysBox_49
  · replace hf := o_f c7 hf
    refine lv_aload_n hx hb dX8_laysBox_10 rfl (lv_at hl 0 rfl) ?_
    refine va_get (D := D) (ci := 6) (v := .ref a_this_box) (C := RX8) (T := TX8) (N := 17) hx hb hts (fun _ h => (List.mem_cons_of_mem _ (List.mem_append_right _ h))) hown hK hP 0 rfl rfl 4 (by decide) (hts (.fieldLink RX8 19 "FloatBoxesModel" "box" "[I") (List.mem_cons_of_mem _ (List.mem_append_left _ (List.mem_of_getElem? (i := 0) rfl)))) (fun _ h9 => h9) rfl dX8_laysBox_11 ?_
    refine lv_iconst (v := 2) hx hb dX8_laysBox_14 (by decide) ?_
    refine lv_iload_n hx hb dX8_laysBox_15 rfl (lv_at hl 1 rfl) ?_
    refine lv_imul hx hb dX8_laysBox_16 ?_
    refine lv_aload_n hx hb dX8_laysBox_17 rfl (lv_at hl 0 rfl) ?_
    refine lv_iload_n hx hb dX8_laysBox_18 rfl (lv_at hl 1 rfl) ?_
    obtain ⟨r19, hg19, hf⟩ := o_b1_go hf
    refine g_callVi (wn := (ww_X8_laysBox cI cM a_this a_this_all a_this_past a_this_refused a_this_box a_this_row a_this_text a_this_numbers a_this_before v_states v_empty v_cut v_rowMany v_taken v_found v_textLong v_at v_stopped v_all v_box)) (rest := [.int (2 * x1), .ref a_this_box]) ⟨hx, hb, hml, hown, hts⟩ (c_X8_lowAt l D cI cM a_this a_this_all a_this_past a_this_refused a_this_box a_this_row a_this_text a_this_numbers a_this_before H.size v_states v_empty v_cut v_rowMany v_taken v_found v_textLong v_at v_stopped v_all hg19) (cwV 1 hts gX8_laysBox_X8_lowAt rfl rfl rfl (by decide +kernel) ⟨Nat.le_of_ble_eq_true rfl, Nat.le_of_ble_eq_true rfl⟩) hK hP hD hS hA [0, 1] [2] [1, 2, 0] rfl rfl rfl rfl rfl rfl (by decide) rfl rfl rfl hl.1 rfl (Nat.le_of_ble_eq_true rfl) dX8_laysBox_19 (fun H locs hP hD hS => ?_)
    obtain ⟨h22, hf⟩ := o_in_go hf
    refine va_iast hx hb hK hP hD hS 2 0 rfl rfl h22 dX8_laysBox_22 (fun H locs hP hD hS => ?_)
    replace hP : va_P D vwCl (ww_X8_laysBox cI cM a_this a_this_all a_this_past a_this_refused a_this_box a_this_row a_this_text a_this_numbers a_this_before v_states v_empty v_cut v_rowMany v_taken v_found v_textLong v_at v_stopped v_all (upd v_box (2 * x1).toNatClampNeg r19)) H := hP
    replace hD : va_D A (ww_X8_laysBox cI cM a_this a_this_all a_this_past a_this_refused a_this_box a_this_row a_this_text a_this_numbers a_this_before v_states v_empty v_cut v_rowMany v_taken v_found v_textLong v_at v_stopped v_all (upd v_box (2 * x1).toNatClampNeg r19)) := hD
    refine lv_aload_n hx hb dX8_laysBox_23 rfl (lv_at hl 0 rfl) ?_
    refine va_get (D := D) (ci := 6) (v := .ref a_this_box) (C := RX8) (T := TX8) (N := 17) hx hb hts (fun _ h => (List.mem_cons_of_mem _ (List.mem_append_right _ h))) hown hK hP 0 rfl rfl 4 (by decide) (hts (.fieldLink RX8 19 "FloatBoxesModel" "box" "[I") (List.mem_cons_of_mem _ (List.mem_append_left _ (List.mem_of_getElem? (i := 0) rfl)))) (fun _ h9 => h9) rfl dX8_laysBox_24 ?_
    refine lv_iconst (v := 2) hx hb dX8_laysBox_27 (by decide) ?_
    refine lv_iload_n hx hb dX8_laysBox_28 rfl (lv_at hl 1 rfl) ?_
    refine lv_imul hx hb dX8_laysBox_29 ?_
    refine lv_iconst (v := 1) hx hb dX8_laysBox_30 (by decide) ?_
    refine lv_iadd hx hb dX8_laysBox_31 ?_
    refine lv_aload_n hx hb dX8_laysBox_32 rfl (lv_at hl 0 rfl) ?_
    refine lv_iload_n hx hb dX8_laysBox_33 rfl (lv_at hl 1 rfl) ?_
    obtain ⟨r34, hg34, hf⟩ := o_b1_go hf
    refine g_callVi (wn := (ww_X8_laysBox cI cM a_this a_this_all a_this_past a_this_refused a_this_box a_this_row a_this_text a_this_numbers a_this_before v_states v_empty v_cut v_rowMany v_taken v_found v_textLong v_at v_stopped v_all (upd v_box (2 * x1).toNatClampNeg r19))) (rest := [.int ((2 * x1) + 1), .ref a_this_box]) ⟨hx, hb, hml, hown, hts⟩ (c_X8_highAt l D cI cM a_this a_this_all a_this_past a_this_refused a_this_box a_this_row a_this_text a_this_numbers a_this_before H.size v_states v_empty v_cut v_rowMany v_taken v_found v_textLong v_at v_stopped v_all hg34) (cwV 1 hts gX8_laysBox_X8_highAt rfl rfl rfl (by decide +kernel) ⟨Nat.le_of_ble_eq_true rfl, Nat.le_of_ble_eq_true rfl⟩) hK hP hD hS hA [0, 1] [2] [1, 2, 0] rfl rfl rfl rfl rfl rfl (by decide) rfl rfl rfl hl.1 rfl (Nat.le_of_ble_eq_true rfl) dX8_laysBox_34 (fun H locs hP hD hS => ?_)
    obtain ⟨h37, hf⟩ := o_in_go hf
    refine va_iast hx hb hK hP hD hS 2 0 rfl rfl h37 dX8_laysBox_37 (fun H locs hP hD hS => ?_)
    replace hP : va_P D vwCl (ww_X8_laysBox cI cM a_this a_this_all a_this_past a_this_refused a_this_box a_this_row a_this_text a_this_numbers a_this_before v_states v_empty v_cut v_rowMany v_taken v_found v_textLong v_at v_stopped v_all (upd (upd v_box (2 * x1).toNatClampNeg r19) ((2 * x1) + 1).toNatClampNeg r34)) H := hP
    replace hD : va_D A (ww_X8_laysBox cI cM a_this a_this_all a_this_past a_this_refused a_this_box a_this_row a_this_text a_this_numbers a_this_before v_states v_empty v_cut v_rowMany v_taken v_found v_textLong v_at v_stopped v_all (upd (upd v_box (2 * x1).toNatClampNeg r19) ((2 * x1) + 1).toNatClampNeg r34)) := hD
    refine lv_iinc (v := x1 + 1) (lv' := [(1, .int (x1 + 1)), (0, .ref a_this)]) hx hb dX8_laysBox_38 hl (k := 1) rfl rfl (by decide) rfl (fun ls hl => ?_)
    refine lv_goto (tgt := 2) hx hb dX8_laysBox_41 (by decide) ?_
    exact hk2 v_empty (upd (upd v_box (2 * x1).toNatClampNeg r19) ((2 * x1) + 1).toNatClampNeg r34) (x1 + 1) H locs ls hf hP hD hS (lv_sub hl [1, 0] rfl)
set_option maxHeartbeats 4000000 in
set_option maxRecDepth 100000 in
theorem w_X8_laysBox_L2 {p : Program} {l : Launch} {e : Env} {s : State} {m : MethodId} {args : Array Value} {below : List Frame} {meth : Method} {c : Code} {D : va_G} {cI cM : ClassId} {A : Nat → Prop} {a_this a_this_all a_this_past a_this_refused a_this_box a_this_row a_this_text a_this_numbers a_this_before : Nat} {v_states : Int32} {v_cut : Int32} {v_rowMany : Int32} {v_taken : Int32} {v_found : Int32} {v_textLong : Int32} {v_at : Int32} {v_stopped : Int32} {N : Nat} {v_all : Nat → Int32} {o_empty : Int32} {o_box : Nat → Int32} (C0 : g_cx cX8_laysBox none 2 RX8 wsX8_laysBox p s m args meth c) (hA : ∀ q, s.heap.size ≤ q → A q) (hK : va_K D vwCl (g_tys cI cM) s) : ∀ n : Nat, ∀ (v_empty : Int32) (v_box : Nat → Int32) (x1 : Int32) (H : Heap) (locs : List Loc) (ls : Array Slot), f_X8_laysBox_L2 N v_all n v_empty v_box x1 = some (o_empty, o_box) → va_P D vwCl (ww_X8_laysBox cI cM a_this a_this_all a_this_past a_this_refused a_this_box a_this_row a_this_text a_this_numbers a_this_before v_states v_empty v_cut v_rowMany v_taken v_found v_textLong v_at v_stopped v_all v_box) H → va_D A (ww_X8_laysBox cI cM a_this a_this_all a_this_past a_this_refused a_this_box a_this_row a_this_text a_this_numbers a_this_before v_states v_empty v_cut v_rowMany v_taken v_found v_textLong v_at v_stopped v_all v_box) → va_S A s.heap H locs → lv_has ls 2 [(0, .ref a_this), (1, .int x1)] → W p l e rm_X8_laysBox s m args below meth c H locs 0 0 (MQ below (g_QV D (g_tys cI cM) A (ww_X8_laysBox cI cM a_this a_this_all a_this_past a_this_refused a_this_box a_this_row a_this_text a_this_numbers a_this_before v_states o_empty v_cut v_rowMany v_taken v_found v_textLong v_at v_stopped v_all o_box)) args s 0 0 A) (F0 m 2 ls []) := by
  intro n
  induction n with
  | zero =>
    intro v_empty v_box x1 H locs ls hf
    exact absurd hf (fun h => nomatch h)
  | succ n ih =>
    intro v_empty v_box x1 H locs ls hf
    exact w_X8_laysBox_C2 C0 hA hK _ ih v_empty v_box x1 H locs ls hf
def f_X8_laysBox (N : Nat) (v_all : Nat → Int32) (v_empty : Int32) (v_box : Nat → Int32) : Option (Int32 × (Nat → Int32)) :=
  f_X8_laysBox_L2 N v_all N v_empty v_box 0
set_option maxHeartbeats 4000000 in
set_option maxRecDepth 100000 in
theorem w_X8_laysBox_B0 {p : Program} {l : Launch} {e : Env} {s : State} {m : MethodId} {args : Array Value} {below : List Frame} {meth : Method} {c : Code} {D : va_G} {cI cM : ClassId} {A : Nat → Prop} {a_this a_this_all a_this_past a_this_refused a_this_box a_this_row a_this_text a_this_numbers a_this_before : Nat} {v_states : Int32} {v_cut : Int32} {v_rowMany : Int32} {v_taken : Int32} {v_found : Int32} {v_textLong : Int32} {v_at : Int32} {v_stopped : Int32} {N : Nat} {v_all : Nat → Int32} {o_empty : Int32} {o_box : Nat → Int32} (C0 : g_cx cX8_laysBox none 2 RX8 wsX8_laysBox p s m args meth c) (hA : ∀ q, s.heap.size ≤ q → A q) (hK : va_K D vwCl (g_tys cI cM) s) : ∀ (v_empty : Int32) (v_box : Nat → Int32) (H : Heap) (locs : List Loc) (ls : Array Slot), f_X8_laysBox N v_all v_empty v_box = some (o_empty, o_box) → va_P D vwCl (ww_X8_laysBox cI cM a_this a_this_all a_this_past a_this_refused a_this_box a_this_row a_this_text a_this_numbers a_this_before v_states v_empty v_cut v_rowMany v_taken v_found v_textLong v_at v_stopped v_all v_box) H → va_D A (ww_X8_laysBox cI cM a_this a_this_all a_this_past a_this_refused a_this_box a_this_row a_this_text a_this_numbers a_this_before v_states v_empty v_cut v_rowMany v_taken v_found v_textLong v_at v_stopped v_all v_box) → va_S A s.heap H locs → lv_has ls 2 [(0, .ref a_this)] → W p l e rm_X8_laysBox s m args below meth c H locs 0 0 (MQ below (g_QV D (g_tys cI cM) A (ww_X8_laysBox cI cM a_this a_this_all a_this_past a_this_refused a_this_box a_this_row a_this_text a_this_numbers a_this_before v_states o_empty v_cut v_rowMany v_taken v_found v_textLong v_at v_stopped v_all o_box)) args s 0 0 A) (F0 m 0 ls []) := by
  obtain ⟨hx, hb, hr, hml, hown, hts, hlocks⟩ := id C0
  intro v_empty v_box H locs ls hf hP hD hS hl
  unfold f_X8_laysBox at hf
  refine lv_iconst (v := 0) hx hb dX8_laysBox_0 (by decide) ?_
  refine lv_istore_n (lv' := [(1, .int 0), (0, .ref a_this)]) hx hb dX8_laysBox_1 rfl hl (by decide) rfl (fun ls hl => ?_)
  exact w_X8_laysBox_L2 C0 hA hK N v_empty v_box 0 H locs ls hf hP hD hS (lv_sub hl [1, 0] rfl)
set_option maxHeartbeats 4000000 in
set_option maxRecDepth 100000 in
theorem c_X8_laysBox (l : Launch) (D : va_G) (cI cM : ClassId) (a_this a_this_all a_this_past a_this_refused a_this_box a_this_row a_this_text a_this_numbers a_this_before : Nat) (sz : Nat) (v_states : Int32) (v_empty : Int32) (v_cut : Int32) (v_rowMany : Int32) (v_taken : Int32) (v_found : Int32) (v_textLong : Int32) (v_at : Int32) (v_stopped : Int32) (v_all : Nat → Int32) (v_box : Nat → Int32) {N : Nat} {o_empty : Int32} {o_box : Nat → Int32} (hf : f_X8_laysBox N v_all v_empty v_box = some (o_empty, o_box)) : Met l yX8_laysBox wsX8_laysBox rm_X8_laysBox (g_Pc D (g_tys cI cM) (ww_X8_laysBox cI cM a_this a_this_all a_this_past a_this_refused a_this_box a_this_row a_this_text a_this_numbers a_this_before v_states v_empty v_cut v_rowMany v_taken v_found v_textLong v_at v_stopped v_all v_box) sz [.ref a_this]) (g_QV D (g_tys cI cM) (va_A (ww_X8_laysBox cI cM a_this a_this_all a_this_past a_this_refused a_this_box a_this_row a_this_text a_this_numbers a_this_before v_states v_empty v_cut v_rowMany v_taken v_found v_textLong v_at v_stopped v_all v_box) sz) (ww_X8_laysBox cI cM a_this a_this_all a_this_past a_this_refused a_this_box a_this_row a_this_text a_this_numbers a_this_before v_states o_empty v_cut v_rowMany v_taken v_found v_textLong v_at v_stopped v_all o_box)) 0 0 (va_A (ww_X8_laysBox cI cM a_this a_this_all a_this_past a_this_refused a_this_box a_this_row a_this_text a_this_numbers a_this_before v_states v_empty v_cut v_rowMany v_taken v_found v_textLong v_at v_stopped v_all v_box) sz) := by
  refine g_met (cc := cX8_laysBox) (maxL := 2) (ret := none) (Qc := fun D A => g_QV D (g_tys cI cM) A (ww_X8_laysBox cI cM a_this a_this_all a_this_past a_this_refused a_this_box a_this_row a_this_text a_this_numbers a_this_before v_states o_empty v_cut v_rowMany v_taken v_found v_textLong v_at v_stopped v_all o_box)) (by decide) rfl ?_
  intro p e s m below meth c A C0 hA hK hP hD
  have hl := lv_entry ([.ref a_this]) (n := 2) (Nat.le_of_ble_eq_true rfl)
  rw [lg_entry_eq]
  generalize (lg_sl ([.ref a_this]) ++ List.replicate (2 - (lg_sl ([.ref a_this])).length) Slot.unset).toArray = ls at hl ⊢
  have hl : lv_has ls 2 [(0, .ref a_this)] := hl
  exact w_X8_laysBox_B0 C0 hA hK v_empty v_box s.heap [] ls hf hP hD va_S.rf (lv_sub hl [0] rfl)
/-! FloatBoxesModel.keeps(IJJ)V -/
abbrev rm_X8_keeps : Room := { frames := 1, cells := 0, slots := 0, locals := 21 }
abbrev ww_X8_keeps (cI cM : ClassId) (a_this a_this_all a_this_past a_this_refused a_this_box a_this_row a_this_text a_this_numbers a_this_before : Nat) (v_states : Int32) (v_empty : Int32) (v_cut : Int32) (v_rowMany : Int32) (v_taken : Int32) (v_found : Int32) (v_textLong : Int32) (v_at : Int32) (v_stopped : Int32) (v_box : Nat → Int32) : va_W := [(a_this, .inr (6, [.ref a_this_all, .ref a_this_past, .int v_states, .ref a_this_refused, .ref a_this_box, .int v_empty, .int v_cut, .ref a_this_row, .int v_rowMany, .int v_taken, .int v_found, .ref a_this_text, .int v_textLong, .int v_at, .ref a_this_numbers, .int v_stopped, .ref a_this_before])), (a_this_box, .inl (cI, 12, .inl v_box))]
def f_X8_keeps_B107  (v_empty : Int32) (v_cut : Int32) (v_box : Nat → Int32) (x1 : Int32) (x6 : Int64) (x8 : Int64) (z1 : Int32) : Option (Int32 × Int32 × (Nat → Int32)) :=
  o_ck (o_zb z1) (
  o_in (2 * x1) 12 (
  o_in ((2 * x1) + 1) 12 (
  some (v_empty, z1, upd (upd v_box (2 * x1).toNatClampNeg x6.toInt32) ((2 * x1) + 1).toNatClampNeg x8.toInt32))))
set_option maxHeartbeats 4000000 in
set_option maxRecDepth 100000 in
theorem w_X8_keeps_B107 {p : Program} {l : Launch} {e : Env} {s : State} {m : MethodId} {args : Array Value} {below : List Frame} {meth : Method} {c : Code} {D : va_G} {cI cM : ClassId} {A : Nat → Prop} {a_this a_this_all a_this_past a_this_refused a_this_box a_this_row a_this_text a_this_numbers a_this_before : Nat} {v_states : Int32} {v_rowMany : Int32} {v_taken : Int32} {v_found : Int32} {v_textLong : Int32} {v_at : Int32} {v_stopped : Int32} {o_empty : Int32} {o_cut : Int32} {o_box : Nat → Int32} (C0 : g_cx cX8_keeps none 10 RX8 wsX8_keeps p s m args meth c) (hA : ∀ q, s.heap.size ≤ q → A q) (hK : va_K D vwCl (g_tys cI cM) s) : ∀ (v_empty : Int32) (v_cut : Int32) (v_box : Nat → Int32) (x1 : Int32) (x6 : Int64) (x8 : Int64) (z1 : Int32) (H : Heap) (locs : List Loc) (ls : Array Slot), f_X8_keeps_B107 v_empty v_cut v_box x1 x6 x8 z1 = some (o_empty, o_cut, o_box) → va_P D vwCl (ww_X8_keeps cI cM a_this a_this_all a_this_past a_this_refused a_this_box a_this_row a_this_text a_this_numbers a_this_before v_states v_empty v_cut v_rowMany v_taken v_found v_textLong v_at v_stopped v_box) H → va_D A (ww_X8_keeps cI cM a_this a_this_all a_this_past a_this_refused a_this_box a_this_row a_this_text a_this_numbers a_this_before v_states v_empty v_cut v_rowMany v_taken v_found v_textLong v_at v_stopped v_box) → va_S A s.heap H locs → lv_has ls 10 [(0, .ref a_this), (1, .int x1), (6, .long x6), (8, .long x8)] → W p l e rm_X8_keeps s m args below meth c H locs 0 0 (MQ below (g_QV D (g_tys cI cM) A (ww_X8_keeps cI cM a_this a_this_all a_this_past a_this_refused a_this_box a_this_row a_this_text a_this_numbers a_this_before v_states o_empty o_cut v_rowMany v_taken v_found v_textLong v_at v_stopped o_box)) args s 0 0 A) (F0 m 107 ls [.int z1, .ref a_this]) := by
  obtain ⟨hx, hb, hr, hml, hown, hts, hlocks⟩ := id C0
  intro v_empty v_cut v_box x1 x6 x8 z1 H locs ls hf hP hD hS hl
  unfold f_X8_keeps_B107 at hf
  obtain ⟨hz107, hf⟩ := o_ck_go hf
  refine va_put (D := D) (ci := 6) (v := .int z1) (ty := .boolean) (C := RX8) (T := TX8) (N := 17) hx hb hts (fun _ h => (List.mem_cons_of_mem _ (List.mem_append_right _ h))) tyX8 tyX8_ok nmX8 hown hK hP hD hS 0 rfl rfl 6 (by decide) (hts (.fieldLink RX8 134 "FloatBoxesModel" "cut" "Z") (List.mem_cons_of_mem _ (List.mem_append_left _ (List.mem_of_getElem? (i := 1) rfl)))) (fun _ h9 => h9) rfl (by decide +kernel) (o_zb_nar hz107) (o_zb_fit hz107) (Nat.le_of_ble_eq_true rfl) dX8_keeps_107 (fun H locs hP hD hS => ?_)
  replace hP : va_P D vwCl (ww_X8_keeps cI cM a_this a_this_all a_this_past a_this_refused a_this_box a_this_row a_this_text a_this_numbers a_this_before v_states v_empty z1 v_rowMany v_taken v_found v_textLong v_at v_stopped v_box) H := hP
  replace hD : va_D A (ww_X8_keeps cI cM a_this a_this_all a_this_past a_this_refused a_this_box a_this_row a_this_text a_this_numbers a_this_before v_states v_empty z1 v_rowMany v_taken v_found v_textLong v_at v_stopped v_box) := hD
  refine lv_aload_n hx hb dX8_keeps_110 rfl (lv_at hl 0 rfl) ?_
  refine va_get (D := D) (ci := 6) (v := .ref a_this_box) (C := RX8) (T := TX8) (N := 17) hx hb hts (fun _ h => (List.mem_cons_of_mem _ (List.mem_append_right _ h))) hown hK hP 0 rfl rfl 4 (by decide) (hts (.fieldLink RX8 19 "FloatBoxesModel" "box" "[I") (List.mem_cons_of_mem _ (List.mem_append_left _ (List.mem_of_getElem? (i := 2) rfl)))) (fun _ h9 => h9) rfl dX8_keeps_111 ?_
  refine lv_iconst (v := 2) hx hb dX8_keeps_114 (by decide) ?_
  refine lv_iload_n hx hb dX8_keeps_115 rfl (lv_at hl 1 rfl) ?_
  refine lv_imul hx hb dX8_keeps_116 ?_
  refine lv_lload hx hb dX8_keeps_117 (lv_at hl 2 rfl) ?_
  refine lv_l2i hx hb dX8_keeps_119 rfl ?_
  obtain ⟨h120, hf⟩ := o_in_go hf
  refine va_iast hx hb hK hP hD hS 1 0 rfl rfl h120 dX8_keeps_120 (fun H locs hP hD hS => ?_)
  replace hP : va_P D vwCl (ww_X8_keeps cI cM a_this a_this_all a_this_past a_this_refused a_this_box a_this_row a_this_text a_this_numbers a_this_before v_states v_empty z1 v_rowMany v_taken v_found v_textLong v_at v_stopped (upd v_box (2 * x1).toNatClampNeg x6.toInt32)) H := hP
  replace hD : va_D A (ww_X8_keeps cI cM a_this a_this_all a_this_past a_this_refused a_this_box a_this_row a_this_text a_this_numbers a_this_before v_states v_empty z1 v_rowMany v_taken v_found v_textLong v_at v_stopped (upd v_box (2 * x1).toNatClampNeg x6.toInt32)) := hD
  refine lv_aload_n hx hb dX8_keeps_121 rfl (lv_at hl 0 rfl) ?_
  refine va_get (D := D) (ci := 6) (v := .ref a_this_box) (C := RX8) (T := TX8) (N := 17) hx hb hts (fun _ h => (List.mem_cons_of_mem _ (List.mem_append_right _ h))) hown hK hP 0 rfl rfl 4 (by decide) (hts (.fieldLink RX8 19 "FloatBoxesModel" "box" "[I") (List.mem_cons_of_mem _ (List.mem_append_left _ (List.mem_of_getElem? (i := 2) rfl)))) (fun _ h9 => h9) rfl dX8_keeps_122 ?_
  refine lv_iconst (v := 2) hx hb dX8_keeps_125 (by decide) ?_
  refine lv_iload_n hx hb dX8_keeps_126 rfl (lv_at hl 1 rfl) ?_
  refine lv_imul hx hb dX8_keeps_127 ?_
  refine lv_iconst (v := 1) hx hb dX8_keeps_128 (by decide) ?_
  refine lv_iadd hx hb dX8_keeps_129 ?_
  refine lv_lload hx hb dX8_keeps_130 (lv_at hl 3 rfl) ?_
  refine lv_l2i hx hb dX8_keeps_132 rfl ?_
  obtain ⟨h133, hf⟩ := o_in_go hf
  refine va_iast hx hb hK hP hD hS 1 0 rfl rfl h133 dX8_keeps_133 (fun H locs hP hD hS => ?_)
  replace hP : va_P D vwCl (ww_X8_keeps cI cM a_this a_this_all a_this_past a_this_refused a_this_box a_this_row a_this_text a_this_numbers a_this_before v_states v_empty z1 v_rowMany v_taken v_found v_textLong v_at v_stopped (upd (upd v_box (2 * x1).toNatClampNeg x6.toInt32) ((2 * x1) + 1).toNatClampNeg x8.toInt32)) H := hP
  replace hD : va_D A (ww_X8_keeps cI cM a_this a_this_all a_this_past a_this_refused a_this_box a_this_row a_this_text a_this_numbers a_this_before v_states v_empty z1 v_rowMany v_taken v_found v_textLong v_at v_stopped (upd (upd v_box (2 * x1).toNatClampNeg x6.toInt32) ((2 * x1) + 1).toNatClampNeg x8.toInt32)) := hD
  obtain ⟨q0, y0⟩ := o_rp hf
  obtain ⟨q1, y1⟩ := o_rp y0
  have q2 := Option.some.inj y1
  subst q0 q1 q2
  exact g_vret hx hb hr hlocks hP hD hK hS dX8_keeps_134
def f_X8_keeps_B102  (v_empty : Int32) (v_cut : Int32) (v_box : Nat → Int32) (x1 : Int32) (x6 : Int64) (x8 : Int64) : Option (Int32 × Int32 × (Nat → Int32)) :=
  f_X8_keeps_B107 v_empty v_cut v_box x1 x6 x8 1
set_option maxHeartbeats 4000000 in
set_option maxRecDepth 100000 in
theorem w_X8_keeps_B102 {p : Program} {l : Launch} {e : Env} {s : State} {m : MethodId} {args : Array Value} {below : List Frame} {meth : Method} {c : Code} {D : va_G} {cI cM : ClassId} {A : Nat → Prop} {a_this a_this_all a_this_past a_this_refused a_this_box a_this_row a_this_text a_this_numbers a_this_before : Nat} {v_states : Int32} {v_rowMany : Int32} {v_taken : Int32} {v_found : Int32} {v_textLong : Int32} {v_at : Int32} {v_stopped : Int32} {o_empty : Int32} {o_cut : Int32} {o_box : Nat → Int32} (C0 : g_cx cX8_keeps none 10 RX8 wsX8_keeps p s m args meth c) (hA : ∀ q, s.heap.size ≤ q → A q) (hK : va_K D vwCl (g_tys cI cM) s) : ∀ (v_empty : Int32) (v_cut : Int32) (v_box : Nat → Int32) (x1 : Int32) (x6 : Int64) (x8 : Int64) (H : Heap) (locs : List Loc) (ls : Array Slot), f_X8_keeps_B102 v_empty v_cut v_box x1 x6 x8 = some (o_empty, o_cut, o_box) → va_P D vwCl (ww_X8_keeps cI cM a_this a_this_all a_this_past a_this_refused a_this_box a_this_row a_this_text a_this_numbers a_this_before v_states v_empty v_cut v_rowMany v_taken v_found v_textLong v_at v_stopped v_box) H → va_D A (ww_X8_keeps cI cM a_this a_this_all a_this_past a_this_refused a_this_box a_this_row a_this_text a_this_numbers a_this_before v_states v_empty v_cut v_rowMany v_taken v_found v_textLong v_at v_stopped v_box) → va_S A s.heap H locs → lv_has ls 10 [(0, .ref a_this), (1, .int x1), (6, .long x6), (8, .long x8)] → W p l e rm_X8_keeps s m args below meth c H locs 0 0 (MQ below (g_QV D (g_tys cI cM) A (ww_X8_keeps cI cM a_this a_this_all a_this_past a_this_refused a_this_box a_this_row a_this_text a_this_numbers a_this_before v_states o_empty o_cut v_rowMany v_taken v_found v_textLong v_at v_stopped o_box)) args s 0 0 A) (F0 m 102 ls [.ref a_this]) := by
  obtain ⟨hx, hb, hr, hml, hown, hts, hlocks⟩ := id C0
  intro v_empty v_cut v_box x1 x6 x8 H locs ls hf hP hD hS hl
  unfold f_X8_keeps_B102 at hf
  refine lv_iconst (v := 1) hx hb dX8_keeps_102 (by decide) ?_
  refine lv_goto (tgt := 107) hx hb dX8_keeps_103 (by decide) ?_
  exact w_X8_keeps_B107 C0 hA hK v_empty v_cut v_box x1 x6 x8 1 H locs ls hf hP hD hS (lv_sub hl [0, 1, 2, 3] rfl)
def f_X8_keeps_B54  (v_empty : Int32) (v_cut : Int32) (v_box : Nat → Int32) (x1 : Int32) (x6 : Int64) (z0 : Int64) : Option (Int32 × Int32 × (Nat → Int32)) :=
  if (lg_cmp x6 z0) ≤ 0 then
    if v_cut = 0 then
      o_b1 (f_X8_low v_box x1) (fun (r82 : Int32) =>
      if (lg_cmp x6 r82.toInt64) = 0 then
        o_b1 (f_X8_high v_box x1) (fun (r94 : Int32) =>
        if (lg_cmp z0 r94.toInt64) = 0 then
          f_X8_keeps_B107 v_empty v_cut v_box x1 x6 z0 0
        else
          f_X8_keeps_B102 v_empty v_cut v_box x1 x6 z0)
      else
        f_X8_keeps_B102 v_empty v_cut v_box x1 x6 z0)
    else
      f_X8_keeps_B102 v_empty v_cut v_box x1 x6 z0
  else
    some (1, v_cut, v_box)
set_option maxHeartbeats 4000000 in
set_option maxRecDepth 100000 in
theorem w_X8_keeps_B54 {p : Program} {l : Launch} {e : Env} {s : State} {m : MethodId} {args : Array Value} {below : List Frame} {meth : Method} {c : Code} {D : va_G} {cI cM : ClassId} {A : Nat → Prop} {a_this a_this_all a_this_past a_this_refused a_this_box a_this_row a_this_text a_this_numbers a_this_before : Nat} {v_states : Int32} {v_rowMany : Int32} {v_taken : Int32} {v_found : Int32} {v_textLong : Int32} {v_at : Int32} {v_stopped : Int32} {o_empty : Int32} {o_cut : Int32} {o_box : Nat → Int32} (C0 : g_cx cX8_keeps none 10 RX8 wsX8_keeps p s m args meth c) (hA : ∀ q, s.heap.size ≤ q → A q) (hK : va_K D vwCl (g_tys cI cM) s) : ∀ (v_empty : Int32) (v_cut : Int32) (v_box : Nat → Int32) (x1 : Int32) (x6 : Int64) (z0 : Int64) (H : Heap) (locs : List Loc) (ls : Array Slot), f_X8_keeps_B54 v_empty v_cut v_box x1 x6 z0 = some (o_empty, o_cut, o_box) → va_P D vwCl (ww_X8_keeps cI cM a_this a_this_all a_this_past a_this_refused a_this_box a_this_row a_this_text a_this_numbers a_this_before v_states v_empty v_cut v_rowMany v_taken v_found v_textLong v_at v_stopped v_box) H → va_D A (ww_X8_keeps cI cM a_this a_this_all a_this_past a_this_refused a_this_box a_this_row a_this_text a_this_numbers a_this_before v_states v_empty v_cut v_rowMany v_taken v_found v_textLong v_at v_stopped v_box) → va_S A s.heap H locs → lv_has ls 10 [(0, .ref a_this), (1, .int x1), (6, .long x6)] → W p l e rm_X8_keeps s m args below meth c H locs 0 0 (MQ below (g_QV D (g_tys cI cM) A (ww_X8_keeps cI cM a_this a_this_all a_this_past a_this_refused a_this_box a_this_row a_this_text a_this_numbers a_this_before v_states o_empty o_cut v_rowMany v_taken v_found v_textLong v_at v_stopped o_box)) args s 0 0 A) (F0 m 54 ls [.long z0]) := by
  obtain ⟨hx, hb, hr, hml, hown, hts, hlocks⟩ := id C0
  intro v_empty v_cut v_box x1 x6 z0 H locs ls hf hP hD hS hl
  unfold f_X8_keeps_B54 at hf
  refine lv_lstore (lv' := [(8, .long z0), (0, .ref a_this), (1, .int x1), (6, .long x6)]) hx hb dX8_keeps_54 hl (by decide) rfl (fun ls hl => ?_)
  refine lv_lload hx hb dX8_keeps_56 (lv_at hl 3 rfl) ?_
  refine lv_lload hx hb dX8_keeps_58 (lv_at hl 0 rfl) ?_
  refine W.lcmp hx hb dX8_keeps_60 ?_
  refine lv_if_le (tgt := 70) hx hb dX8_keeps_61 (by decide) (fun c61 => ?_) (fun c61 => ?_)
  · replace hf := o_t c61 hf
    refine lv_aload_n hx hb dX8_keeps_70 rfl (lv_at hl 1 rfl) ?_
    refine lv_aload_n hx hb dX8_keeps_71 rfl (lv_at hl 1 rfl) ?_
    refine va_get (D := D) (ci := 6) (v := .int v_cut) (C := RX8) (T := TX8) (N := 17) hx hb hts (fun _ h => (List.mem_cons_of_mem _ (List.mem_append_right _ h))) hown hK hP 0 rfl rfl 6 (by decide) (hts (.fieldLink RX8 134 "FloatBoxesModel" "cut" "Z") (List.mem_cons_of_mem _ (List.mem_append_left _ (List.mem_of_getElem? (i := 1) rfl)))) (fun _ h9 => h9) rfl dX8_keeps_72 ?_
    refine lv_if_ne (tgt := 102) hx hb dX8_keeps_75 (by decide) (fun c75 => ?_) (fun c75 => ?_)
    · replace hf := o_f c75 hf
      exact w_X8_keeps_B102 C0 hA hK v_empty v_cut v_box x1 x6 z0 H locs ls hf hP hD hS (lv_sub hl [1, 2, 3, 0] rfl)
    · replace hf := o_t c75 hf
      refine lv_lload hx hb dX8_keeps_78 (lv_at hl 3 rfl) ?_
      refine lv_aload_n hx hb dX8_keeps_80 rfl (lv_at hl 1 rfl) ?_
      refine lv_iload_n hx hb dX8_keeps_81 rfl (lv_at hl 2 rfl) ?_
      obtain ⟨r82, hg82, hf⟩ := o_b1_go hf
      refine g_callVi (wn := (ww_X8_keeps cI cM a_this a_this_all a_this_past a_this_refused a_this_box a_this_row a_this_text a_this_numbers a_this_before v_states v_empty v_cut v_rowMany v_taken v_found v_textLong v_at v_stopped v_box)) (rest := [.long x6, .ref a_this]) ⟨hx, hb, hml, hown, hts⟩ (c_X8_low l D cI cM a_this a_this_all a_this_past a_this_refused a_this_box a_this_row a_this_text a_this_numbers a_this_before H.size v_states v_empty v_cut v_rowMany v_taken v_found v_textLong v_at v_stopped v_box hg82) (cwV 1 hts gX8_keeps_X8_low rfl rfl rfl (by decide +kernel) ⟨Nat.le_of_ble_eq_true rfl, Nat.le_of_ble_eq_true rfl⟩) hK hP hD hS hA [0, 1] [] [0, 1] rfl rfl rfl rfl rfl rfl (by decide) rfl rfl rfl hl.1 rfl (Nat.le_of_ble_eq_true rfl) dX8_keeps_82 (fun H locs hP hD hS => ?_)
      refine lv_i2l hx hb dX8_keeps_85 rfl ?_
      refine W.lcmp hx hb dX8_keeps_86 ?_
      refine lv_if_ne (tgt := 102) hx hb dX8_keeps_87 (by decide) (fun c87 => ?_) (fun c87 => ?_)
      · replace hf := o_f c87 hf
        exact w_X8_keeps_B102 C0 hA hK v_empty v_cut v_box x1 x6 z0 H locs ls hf hP hD hS (lv_sub hl [1, 2, 3, 0] rfl)
      · replace hf := o_t c87 hf
        refine lv_lload hx hb dX8_keeps_90 (lv_at hl 0 rfl) ?_
        refine lv_aload_n hx hb dX8_keeps_92 rfl (lv_at hl 1 rfl) ?_
        refine lv_iload_n hx hb dX8_keeps_93 rfl (lv_at hl 2 rfl) ?_
        obtain ⟨r94, hg94, hf⟩ := o_b1_go hf
        refine g_callVi (wn := (ww_X8_keeps cI cM a_this a_this_all a_this_past a_this_refused a_this_box a_this_row a_this_text a_this_numbers a_this_before v_states v_empty v_cut v_rowMany v_taken v_found v_textLong v_at v_stopped v_box)) (rest := [.long z0, .ref a_this]) ⟨hx, hb, hml, hown, hts⟩ (c_X8_high l D cI cM a_this a_this_all a_this_past a_this_refused a_this_box a_this_row a_this_text a_this_numbers a_this_before H.size v_states v_empty v_cut v_rowMany v_taken v_found v_textLong v_at v_stopped v_box hg94) (cwV 1 hts gX8_keeps_X8_high rfl rfl rfl (by decide +kernel) ⟨Nat.le_of_ble_eq_true rfl, Nat.le_of_ble_eq_true rfl⟩) hK hP hD hS hA [0, 1] [] [0, 1] rfl rfl rfl rfl rfl rfl (by decide) rfl rfl rfl hl.1 rfl (Nat.le_of_ble_eq_true rfl) dX8_keeps_94 (fun H locs hP hD hS => ?_)
        refine lv_i2l hx hb dX8_keeps_97 rfl ?_
        refine W.lcmp hx hb dX8_keeps_98 ?_
        refine lv_if_eq (tgt := 106) hx hb dX8_keeps_99 (by decide) (fun c99 => ?_) (fun c99 => ?_)
        · replace hf := o_t c99 hf
          refine lv_iconst (v := 0) hx hb dX8_keeps_106 (by decide) ?_
          exact w_X8_keeps_B107 C0 hA hK v_empty v_cut v_box x1 x6 z0 0 H locs ls hf hP hD hS (lv_sub hl [1, 2, 3, 0] rfl)
        · replace hf := o_f c99 hf
          exact w_X8_keeps_B102 C0 hA hK v_empty v_cut v_box x1 x6 z0 H locs ls hf hP hD hS (lv_sub hl [1, 2, 3, 0] rfl)
  · replace hf := o_f c61 hf
    refine lv_aload_n hx hb dX8_keeps_64 rfl (lv_at hl 1 rfl) ?_
    refine lv_iconst (v := 1) hx hb dX8_keeps_65 (by decide) ?_
    refine va_put (D := D) (ci := 6) (v := .int 1) (ty := .boolean) (C := RX8) (T := TX8) (N := 17) hx hb hts (fun _ h => (List.mem_cons_of_mem _ (List.mem_append_right _ h))) tyX8 tyX8_ok nmX8 hown hK hP hD hS 0 rfl rfl 5 (by decide) (hts (.fieldLink RX8 124 "FloatBoxesModel" "empty" "Z") (List.mem_cons_of_mem _ (List.mem_append_left _ (List.mem_of_getElem? (i := 0) rfl)))) (fun _ h9 => h9) rfl (by decide +kernel) (by decide) (by decide) (Nat.le_of_ble_eq_true rfl) dX8_keeps_66 (fun H locs hP hD hS => ?_)
    replace hP : va_P D vwCl (ww_X8_keeps cI cM a_this a_this_all a_this_past a_this_refused a_this_box a_this_row a_this_text a_this_numbers a_this_before v_states 1 v_cut v_rowMany v_taken v_found v_textLong v_at v_stopped v_box) H := hP
    replace hD : va_D A (ww_X8_keeps cI cM a_this a_this_all a_this_past a_this_refused a_this_box a_this_row a_this_text a_this_numbers a_this_before v_states 1 v_cut v_rowMany v_taken v_found v_textLong v_at v_stopped v_box) := hD
    obtain ⟨q0, y0⟩ := o_rp hf
    obtain ⟨q1, y1⟩ := o_rp y0
    have q2 := Option.some.inj y1
    subst q0 q1 q2
    exact g_vret hx hb hr hlocks hP hD hK hS dX8_keeps_69
def f_X8_keeps_B29  (v_empty : Int32) (v_cut : Int32) (v_box : Nat → Int32) (x1 : Int32) (x4 : Int64) (z0 : Int64) : Option (Int32 × Int32 × (Nat → Int32)) :=
  o_b1 (f_X8_high v_box x1) (fun (r35 : Int32) =>
  if 0 ≤ (lg_cmp x4 r35.toInt64) then
    o_b1 (f_X8_high v_box x1) (fun (r50 : Int32) =>
    f_X8_keeps_B54 v_empty v_cut v_box x1 z0 r50.toInt64)
  else
    f_X8_keeps_B54 v_empty v_cut v_box x1 z0 x4)
set_option maxHeartbeats 4000000 in
set_option maxRecDepth 100000 in
theorem w_X8_keeps_B29 {p : Program} {l : Launch} {e : Env} {s : State} {m : MethodId} {args : Array Value} {below : List Frame} {meth : Method} {c : Code} {D : va_G} {cI cM : ClassId} {A : Nat → Prop} {a_this a_this_all a_this_past a_this_refused a_this_box a_this_row a_this_text a_this_numbers a_this_before : Nat} {v_states : Int32} {v_rowMany : Int32} {v_taken : Int32} {v_found : Int32} {v_textLong : Int32} {v_at : Int32} {v_stopped : Int32} {o_empty : Int32} {o_cut : Int32} {o_box : Nat → Int32} (C0 : g_cx cX8_keeps none 10 RX8 wsX8_keeps p s m args meth c) (hA : ∀ q, s.heap.size ≤ q → A q) (hK : va_K D vwCl (g_tys cI cM) s) : ∀ (v_empty : Int32) (v_cut : Int32) (v_box : Nat → Int32) (x1 : Int32) (x4 : Int64) (z0 : Int64) (H : Heap) (locs : List Loc) (ls : Array Slot), f_X8_keeps_B29 v_empty v_cut v_box x1 x4 z0 = some (o_empty, o_cut, o_box) → va_P D vwCl (ww_X8_keeps cI cM a_this a_this_all a_this_past a_this_refused a_this_box a_this_row a_this_text a_this_numbers a_this_before v_states v_empty v_cut v_rowMany v_taken v_found v_textLong v_at v_stopped v_box) H → va_D A (ww_X8_keeps cI cM a_this a_this_all a_this_past a_this_refused a_this_box a_this_row a_this_text a_this_numbers a_this_before v_states v_empty v_cut v_rowMany v_taken v_found v_textLong v_at v_stopped v_box) → va_S A s.heap H locs → lv_has ls 10 [(0, .ref a_this), (1, .int x1), (4, .long x4)] → W p l e rm_X8_keeps s m args below meth c H locs 0 0 (MQ below (g_QV D (g_tys cI cM) A (ww_X8_keeps cI cM a_this a_this_all a_this_past a_this_refused a_this_box a_this_row a_this_text a_this_numbers a_this_before v_states o_empty o_cut v_rowMany v_taken v_found v_textLong v_at v_stopped o_box)) args s 0 0 A) (F0 m 29 ls [.long z0]) := by
  obtain ⟨hx, hb, hr, hml, hown, hts, hlocks⟩ := id C0
  intro v_empty v_cut v_box x1 x4 z0 H locs ls hf hP hD hS hl
  unfold f_X8_keeps_B29 at hf
  refine lv_lstore (lv' := [(6, .long z0), (0, .ref a_this), (1, .int x1), (4, .long x4)]) hx hb dX8_keeps_29 hl (by decide) rfl (fun ls hl => ?_)
  refine lv_lload hx hb dX8_keeps_31 (lv_at hl 3 rfl) ?_
  refine lv_aload_n hx hb dX8_keeps_33 rfl (lv_at hl 1 rfl) ?_
  refine lv_iload_n hx hb dX8_keeps_34 rfl (lv_at hl 2 rfl) ?_
  obtain ⟨r35, hg35, hf⟩ := o_b1_go hf
  refine g_callVi (wn := (ww_X8_keeps cI cM a_this a_this_all a_this_past a_this_refused a_this_box a_this_row a_this_text a_this_numbers a_this_before v_states v_empty v_cut v_rowMany v_taken v_found v_textLong v_at v_stopped v_box)) (rest := [.long x4]) ⟨hx, hb, hml, hown, hts⟩ (c_X8_high l D cI cM a_this a_this_all a_this_past a_this_refused a_this_box a_this_row a_this_text a_this_numbers a_this_before H.size v_states v_empty v_cut v_rowMany v_taken v_found v_textLong v_at v_stopped v_box hg35) (cwV 1 hts gX8_keeps_X8_high rfl rfl rfl (by decide +kernel) ⟨Nat.le_of_ble_eq_true rfl, Nat.le_of_ble_eq_true rfl⟩) hK hP hD hS hA [0, 1] [] [0, 1] rfl rfl rfl rfl rfl rfl (by decide) rfl rfl rfl hl.1 rfl (Nat.le_of_ble_eq_true rfl) dX8_keeps_35 (fun H locs hP hD hS => ?_)
  refine lv_i2l hx hb dX8_keeps_38 rfl ?_
  refine W.lcmp hx hb dX8_keeps_39 ?_
  refine lv_if_ge (tgt := 48) hx hb dX8_keeps_40 (by decide) (fun c40 => ?_) (fun c40 => ?_)
  · replace hf := o_t c40 hf
    refine lv_aload_n hx hb dX8_keeps_48 rfl (lv_at hl 1 rfl) ?_
    refine lv_iload_n hx hb dX8_keeps_49 rfl (lv_at hl 2 rfl) ?_
    obtain ⟨r50, hg50, hf⟩ := o_b1_go hf
    refine g_callVi (wn := (ww_X8_keeps cI cM a_this a_this_all a_this_past a_this_refused a_this_box a_this_row a_this_text a_this_numbers a_this_before v_states v_empty v_cut v_rowMany v_taken v_found v_textLong v_at v_stopped v_box)) (rest := []) ⟨hx, hb, hml, hown, hts⟩ (c_X8_high l D cI cM a_this a_this_all a_this_past a_this_refused a_this_box a_this_row a_this_text a_this_numbers a_this_before H.size v_states v_empty v_cut v_rowMany v_taken v_found v_textLong v_at v_stopped v_box hg50) (cwV 1 hts gX8_keeps_X8_high rfl rfl rfl (by decide +kernel) ⟨Nat.le_of_ble_eq_true rfl, Nat.le_of_ble_eq_true rfl⟩) hK hP hD hS hA [0, 1] [] [0, 1] rfl rfl rfl rfl rfl rfl (by decide) rfl rfl rfl hl.1 rfl (Nat.le_of_ble_eq_true rfl) dX8_keeps_50 (fun H locs hP hD hS => ?_)
    refine lv_i2l hx hb dX8_keeps_53 rfl ?_
    exact w_X8_keeps_B54 C0 hA hK v_empty v_cut v_box x1 z0 r50.toInt64 H locs ls hf hP hD hS (lv_sub hl [1, 2, 0] rfl)
  · replace hf := o_f c40 hf
    refine lv_lload hx hb dX8_keeps_43 (lv_at hl 3 rfl) ?_
    refine lv_goto (tgt := 54) hx hb dX8_keeps_45 (by decide) ?_
    exact w_X8_keeps_B54 C0 hA hK v_empty v_cut v_box x1 z0 x4 H locs ls hf hP hD hS (lv_sub hl [1, 2, 0] rfl)
def f_X8_keeps  (v_empty : Int32) (v_cut : Int32) (v_box : Nat → Int32) (x1 : Int32) (x2 : Int64) (x4 : Int64) : Option (Int32 × Int32 × (Nat → Int32)) :=
  if v_empty = 0 then
    o_b1 (f_X8_low v_box x1) (fun (r11 : Int32) =>
    if (lg_cmp x2 r11.toInt64) ≤ 0 then
      o_b1 (f_X8_low v_box x1) (fun (r25 : Int32) =>
      f_X8_keeps_B29 v_empty v_cut v_box x1 x4 r25.toInt64)
    else
      f_X8_keeps_B29 v_empty v_cut v_box x1 x4 x2)
  else
    some (v_empty, v_cut, v_box)
set_option maxHeartbeats 4000000 in
set_option maxRecDepth 100000 in
theorem w_X8_keeps_B0 {p : Program} {l : Launch} {e : Env} {s : State} {m : MethodId} {args : Array Value} {below : List Frame} {meth : Method} {c : Code} {D : va_G} {cI cM : ClassId} {A : Nat → Prop} {a_this a_this_all a_this_past a_this_refused a_this_box a_this_row a_this_text a_this_numbers a_this_before : Nat} {v_states : Int32} {v_rowMany : Int32} {v_taken : Int32} {v_found : Int32} {v_textLong : Int32} {v_at : Int32} {v_stopped : Int32} {o_empty : Int32} {o_cut : Int32} {o_box : Nat → Int32} (C0 : g_cx cX8_keeps none 10 RX8 wsX8_keeps p s m args meth c) (hA : ∀ q, s.heap.size ≤ q → A q) (hK : va_K D vwCl (g_tys cI cM) s) : ∀ (v_empty : Int32) (v_cut : Int32) (v_box : Nat → Int32) (x1 : Int32) (x2 : Int64) (x4 : Int64) (H : Heap) (locs : List Loc) (ls : Array Slot), f_X8_keeps v_empty v_cut v_box x1 x2 x4 = some (o_empty, o_cut, o_box) → va_P D vwCl (ww_X8_keeps cI cM a_this a_this_all a_this_past a_this_refused a_this_box a_this_row a_this_text a_this_numbers a_this_before v_states v_empty v_cut v_rowMany v_taken v_found v_textLong v_at v_stopped v_box) H → va_D A (ww_X8_keeps cI cM a_this a_this_all a_this_past a_this_refused a_this_box a_this_row a_this_text a_this_numbers a_this_before v_states v_empty v_cut v_rowMany v_taken v_found v_textLong v_at v_stopped v_box) → va_S A s.heap H locs → lv_has ls 10 [(0, .ref a_this), (1, .int x1), (2, .long x2), (4, .long x4)] → W p l e rm_X8_keeps s m args below meth c H locs 0 0 (MQ below (g_QV D (g_tys cI cM) A (ww_X8_keeps cI cM a_this a_this_all a_this_past a_this_refused a_this_box a_this_row a_this_text a_this_numbers a_this_before v_states o_empty o_cut v_rowMany v_taken v_found v_textLong v_at v_stopped o_box)) args s 0 0 A) (F0 m 0 ls []) := by
  obtain ⟨hx, hb, hr, hml, hown, hts, hlocks⟩ := id C0
  intro v_empty v_cut v_box x1 x2 x4 H locs ls hf hP hD hS hl
  unfold f_X8_keeps at hf
  refine lv_aload_n hx hb dX8_keeps_0 rfl (lv_at hl 0 rfl) ?_
  refine va_get (D := D) (ci := 6) (v := .int v_empty) (C := RX8) (T := TX8) (N := 17) hx hb hts (fun _ h => (List.mem_cons_of_mem _ (List.mem_append_right _ h))) hown hK hP 0 rfl rfl 5 (by decide) (hts (.fieldLink RX8 124 "FloatBoxesModel" "empty" "Z") (List.mem_cons_of_mem _ (List.mem_append_left _ (List.mem_of_getElem? (i := 0) rfl)))) (fun _ h9 => h9) rfl dX8_keeps_1 ?_
  refine lv_if_eq (tgt := 8) hx hb dX8_keeps_4 (by decide) (fun c4 => ?_) (fun c4 => ?_)
  · replace hf := o_t c4 hf
    refine lv_lload_n hx hb dX8_keeps_8 rfl (lv_at hl 2 rfl) ?_
    refine lv_aload_n hx hb dX8_keeps_9 rfl (lv_at hl 0 rfl) ?_
    refine lv_iload_n hx hb dX8_keeps_10 rfl (lv_at hl 1 rfl) ?_
    obtain ⟨r11, hg11, hf⟩ := o_b1_go hf
    refine g_callVi (wn := (ww_X8_keeps cI cM a_this a_this_all a_this_past a_this_refused a_this_box a_this_row a_this_text a_this_numbers a_this_before v_states v_empty v_cut v_rowMany v_taken v_found v_textLong v_at v_stopped v_box)) (rest := [.long x2]) ⟨hx, hb, hml, hown, hts⟩ (c_X8_low l D cI cM a_this a_this_all a_this_past a_this_refused a_this_box a_this_row a_this_text a_this_numbers a_this_before H.size v_states v_empty v_cut v_rowMany v_taken v_found v_textLong v_at v_stopped v_box hg11) (cwV 1 hts gX8_keeps_X8_low rfl rfl rfl (by decide +kernel) ⟨Nat.le_of_ble_eq_true rfl, Nat.le_of_ble_eq_true rfl⟩) hK hP hD hS hA [0, 1] [] [0, 1] rfl rfl rfl rfl rfl rfl (by decide) rfl rfl rfl hl.1 rfl (Nat.le_of_ble_eq_true rfl) dX8_keeps_11 (fun H locs hP hD hS => ?_)
    refine lv_i2l hx hb dX8_keeps_14 rfl ?_
    refine W.lcmp hx hb dX8_keeps_15 ?_
    refine lv_if_le (tgt := 23) hx hb dX8_keeps_16 (by decide) (fun c16 => ?_) (fun c16 => ?_)
    · replace hf := o_t c16 hf
      refine lv_aload_n hx hb dX8_keeps_23 rfl (lv_at hl 0 rfl) ?_
      refine lv_iload_n hx hb dX8_keeps_24 rfl (lv_at hl 1 rfl) ?_
      obtain ⟨r25, hg25, hf⟩ := o_b1_go hf
      refine g_callVi (wn := (ww_X8_keeps cI cM a_this a_this_all a_this_past a_this_refused a_this_box a_this_row a_this_text a_this_numbers a_this_before v_states v_empty v_cut v_rowMany v_taken v_found v_textLong v_at v_stopped v_box)) (rest := []) ⟨hx, hb, hml, hown, hts⟩ (c_X8_low l D cI cM a_this a_this_all a_this_past a_this_refused a_this_box a_this_row a_this_text a_this_numbers a_this_before H.size v_states v_empty v_cut v_rowMany v_taken v_found v_textLong v_at v_stopped v_box hg25) (cwV 1 hts gX8_keeps_X8_low rfl rfl rfl (by decide +kernel) ⟨Nat.le_of_ble_eq_true rfl, Nat.le_of_ble_eq_true rfl⟩) hK hP hD hS hA [0, 1] [] [0, 1] rfl rfl rfl rfl rfl rfl (by decide) rfl rfl rfl hl.1 rfl (Nat.le_of_ble_eq_true rfl) dX8_keeps_25 (fun H locs hP hD hS => ?_)
      refine lv_i2l hx hb dX8_keeps_28 rfl ?_
      exact w_X8_keeps_B29 C0 hA hK v_empty v_cut v_box x1 x4 r25.toInt64 H locs ls hf hP hD hS (lv_sub hl [0, 1, 3] rfl)
    · replace hf := o_f c16 hf
      refine lv_lload_n hx hb dX8_keeps_19 rfl (lv_at hl 2 rfl) ?_
      refine lv_goto (tgt := 29) hx hb dX8_keeps_20 (by decide) ?_
      exact w_X8_keeps_B29 C0 hA hK v_empty v_cut v_box x1 x4 x2 H locs ls hf hP hD hS (lv_sub hl [0, 1, 3] rfl)
  · replace hf := o_f c4 hf
    obtain ⟨q0, y0⟩ := o_rp hf
    obtain ⟨q1, y1⟩ := o_rp y0
    have q2 := Option.some.inj y1
    subst q0 q1 q2
    exact g_vret hx hb hr hlocks hP hD hK hS dX8_keeps_7
set_option maxHeartbeats 4000000 in
set_option maxRecDepth 100000 in
theorem c_X8_keeps (l : Launch) (D : va_G) (cI cM : ClassId) (a_this a_this_all a_this_past a_this_refused a_this_box a_this_row a_this_text a_this_numbers a_this_before : Nat) (sz : Nat) (v_states : Int32) (v_empty : Int32) (v_cut : Int32) (v_rowMany : Int32) (v_taken : Int32) (v_found : Int32) (v_textLong : Int32) (v_at : Int32) (v_stopped : Int32) (v_box : Nat → Int32) {x1 : Int32} {x2 : Int64} {x4 : Int64} {o_empty : Int32} {o_cut : Int32} {o_box : Nat → Int32} (hf : f_X8_keeps v_empty v_cut v_box x1 x2 x4 = some (o_empty, o_cut, o_box)) : Met l yX8_keeps wsX8_keeps rm_X8_keeps (g_Pc D (g_tys cI cM) (ww_X8_keeps cI cM a_this a_this_all a_this_past a_this_refused a_this_box a_this_row a_this_text a_this_numbers a_this_before v_states v_empty v_cut v_rowMany v_taken v_found v_textLong v_at v_stopped v_box) sz [.ref a_this, .int x1, .long x2, .long x4]) (g_QV D (g_tys cI cM) (va_A (ww_X8_keeps cI cM a_this a_this_all a_this_past a_this_refused a_this_box a_this_row a_this_text a_this_numbers a_this_before v_states v_empty v_cut v_rowMany v_taken v_found v_textLong v_at v_stopped v_box) sz) (ww_X8_keeps cI cM a_this a_this_all a_this_past a_this_refused a_this_box a_this_row a_this_text a_this_numbers a_this_before v_states o_empty o_cut v_rowMany v_taken v_found v_textLong v_at v_stopped o_box)) 0 0 (va_A (ww_X8_keeps cI cM a_this a_this_all a_this_past a_this_refused a_this_box a_this_row a_this_text a_this_numbers a_this_before v_states v_empty v_cut v_rowMany v_taken v_found v_textLong v_at v_stopped v_box) sz) := by
  refine g_met (cc := cX8_keeps) (maxL := 10) (ret := none) (Qc := fun D A => g_QV D (g_tys cI cM) A (ww_X8_keeps cI cM a_this a_this_all a_this_past a_this_refused a_this_box a_this_row a_this_text a_this_numbers a_this_before v_states o_empty o_cut v_rowMany v_taken v_found v_textLong v_at v_stopped o_box)) (by decide) rfl ?_
  intro p e s m below meth c A C0 hA hK hP hD
  have hl := lv_entry ([.ref a_this, .int x1, .long x2, .long x4]) (n := 10) (Nat.le_of_ble_eq_true rfl)
  rw [lg_entry_eq]
  generalize (lg_sl ([.ref a_this, .int x1, .long x2, .long x4]) ++ List.replicate (10 - (lg_sl ([.ref a_this, .int x1, .long x2, .long x4])).length) Slot.unset).toArray = ls at hl ⊢
  have hl : lv_has ls 10 [(0, .ref a_this), (1, .int x1), (2, .long x2), (4, .long x4)] := hl
  exact w_X8_keeps_B0 C0 hA hK v_empty v_cut v_box x1 x2 x4 s.heap [] ls hf hP hD va_S.rf (lv_sub hl [0, 1, 2, 3] rfl)
/-! FloatBoxesModel.reckoned(III)I -/
abbrev rm_X8_reckoned : Room := { frames := 4, cells := 0, slots := 0, locals := 85 }
def f_X8_reckoned  (x0 : Int32) (x1 : Int32) (x2 : Int32) : Option (Int32) :=
  if x0 = 0 then
    o_b1 (f_X8_sum x1 x2) (fun (r6 : Int32) =>
    some r6)
  else
    o_b1 (f_X8_product x1 x2) (fun (r14 : Int32) =>
    some r14)
set_option maxHeartbeats 4000000 in
set_option maxRecDepth 100000 in
theorem w_X8_reckoned_B0 {p : Program} {l : Launch} {e : Env} {s : State} {m : MethodId} {args : Array Value} {below : List Frame} {meth : Method} {c : Code} {r : Int32} (C0 : g_cx cX8_reckoned (some .int) 3 RX8 wsX8_reckoned p s m args meth c) : ∀ (x0 : Int32) (x1 : Int32) (x2 : Int32) (ls : Array Slot), f_X8_reckoned x0 x1 x2 = some r → lv_has ls 3 [(0, .int x0), (1, .int x1), (2, .int x2)] → W p l e rm_X8_reckoned s m args below meth c s.heap [] 0 0 (MQ below (g_SI r) args s 0 0 (fun _ => False)) (F0 m 0 ls []) := by
  obtain ⟨hx, hb, hr, hml, hown, hts, hlocks⟩ := id C0
  intro x0 x1 x2 ls hf hl
  unfold f_X8_reckoned at hf
  refine lv_iload_n hx hb dX8_reckoned_0 rfl (lv_at hl 0 rfl) ?_
  refine lv_if_ne (tgt := 12) hx hb dX8_reckoned_1 (by decide) (fun c1 => ?_) (fun c1 => ?_)
  · replace hf := o_f c1 hf
    refine lv_iload_n hx hb dX8_reckoned_12 rfl (lv_at hl 1 rfl) ?_
    refine lv_iload_n hx hb dX8_reckoned_13 rfl (lv_at hl 2 rfl) ?_
    obtain ⟨r14, hg14, hf⟩ := o_b1_go hf
    refine g_callSi (rest := []) ⟨hx, hb, hml, hown, hts⟩ (c_X8_product l hg14) (va_cwS 2 hts gX8_reckoned_X8_product rfl rfl rfl (by decide +kernel) ⟨Nat.le_of_ble_eq_true rfl, Nat.le_of_ble_eq_true rfl⟩) rfl hl.1 rfl (Nat.le_of_ble_eq_true rfl) dX8_reckoned_14 ?_
    have q0 := Option.some.inj hf
    subst q0
    exact g_siret hx hb hr hlocks dX8_reckoned_17
  · replace hf := o_t c1 hf
    refine lv_iload_n hx hb dX8_reckoned_4 rfl (lv_at hl 1 rfl) ?_
    refine lv_iload_n hx hb dX8_reckoned_5 rfl (lv_at hl 2 rfl) ?_
    obtain ⟨r6, hg6, hf⟩ := o_b1_go hf
    refine g_callSi (rest := []) ⟨hx, hb, hml, hown, hts⟩ (c_X8_sum l hg6) (va_cwS 2 hts gX8_reckoned_X8_sum rfl rfl rfl (by decide +kernel) ⟨Nat.le_of_ble_eq_true rfl, Nat.le_of_ble_eq_true rfl⟩) rfl hl.1 rfl (Nat.le_of_ble_eq_true rfl) dX8_reckoned_6 ?_
    refine lv_goto (tgt := 17) hx hb dX8_reckoned_9 (by decide) ?_
    have q0 := Option.some.inj hf
    subst q0
    exact g_siret hx hb hr hlocks dX8_reckoned_17
set_option maxHeartbeats 4000000 in
set_option maxRecDepth 100000 in
theorem c_X8_reckoned (l : Launch) {x0 : Int32} {x1 : Int32} {x2 : Int32} {r : Int32} (hf : f_X8_reckoned x0 x1 x2 = some r) : Met l yX8_reckoned wsX8_reckoned rm_X8_reckoned (g_PS [.int x0, .int x1, .int x2]) (g_SI r) 0 0 (fun _ => False) := by
  refine g_metS (cc := cX8_reckoned) (maxL := 3) (ret := (some .int)) (by decide) rfl ?_
  intro p e s m below meth c C0
  have hl := lv_entry ([.int x0, .int x1, .int x2]) (n := 3) (Nat.le_of_ble_eq_true rfl)
  rw [lg_entry_eq]
  generalize (lg_sl ([.int x0, .int x1, .int x2]) ++ List.replicate (3 - (lg_sl ([.int x0, .int x1, .int x2])).length) Slot.unset).toArray = ls at hl ⊢
  have hl : lv_has ls 3 [(0, .int x0), (1, .int x1), (2, .int x2)] := hl
  exact w_X8_reckoned_B0 C0 x0 x1 x2 ls hf (lv_sub hl [0, 1, 2] rfl)
/-! FloatBoxesModel.outer(IIIIZ)I -/
abbrev rm_X8_outer : Room := { frames := 5, cells := 0, slots := 0, locals := 107 }
def f_X8_outer_B30  (x5 : Int32) (x6 : Int32) (z0 : Int32) (z1 : Int32) : Option (Int32) :=
  if z0 = z1 then
    some x5
  else
    some x6
set_option maxHeartbeats 4000000 in
set_option maxRecDepth 100000 in
theorem w_X8_outer_B30 {p : Program} {l : Launch} {e : Env} {s : State} {m : MethodId} {args : Array Value} {below : List Frame} {meth : Method} {c : Code} {r : Int32} (C0 : g_cx cX8_outer (some .int) 7 RX8 wsX8_outer p s m args meth c) : ∀ (x5 : Int32) (x6 : Int32) (z0 : Int32) (z1 : Int32) (ls : Array Slot), f_X8_outer_B30 x5 x6 z0 z1 = some r → lv_has ls 7 [(5, .int x5), (6, .int x6)] → W p l e rm_X8_outer s m args below meth c s.heap [] 0 0 (MQ below (g_SI r) args s 0 0 (fun _ => False)) (F0 m 30 ls [.int z1, .int z0]) := by
  obtain ⟨hx, hb, hr, hml, hown, hts, hlocks⟩ := id C0
  intro x5 x6 z0 z1 ls hf hl
  unfold f_X8_outer_B30 at hf
  refine lv_icmp_ne (tgt := 38) hx hb dX8_outer_30 (by decide) (fun c30 => ?_) (fun c30 => ?_)
  · replace hf := o_f c30 hf
    refine lv_iload hx hb dX8_outer_38 (lv_at hl 1 rfl) ?_
    have q0 := Option.some.inj hf
    subst q0
    exact g_siret hx hb hr hlocks dX8_outer_40
  · replace hf := o_t c30 hf
    refine lv_iload hx hb dX8_outer_33 (lv_at hl 0 rfl) ?_
    refine lv_goto (tgt := 40) hx hb dX8_outer_35 (by decide) ?_
    have q0 := Option.some.inj hf
    subst q0
    exact g_siret hx hb hr hlocks dX8_outer_40
def f_X8_outer  (x0 : Int32) (x1 : Int32) (x2 : Int32) (x3 : Int32) (x4 : Int32) : Option (Int32) :=
  o_b1 (f_X8_reckoned x0 x1 x2) (fun (r3 : Int32) =>
  o_b1 (f_X8_reckoned x0 x1 x3) (fun (r11 : Int32) =>
  if r3 ≤ r11 then
    f_X8_outer_B30 r3 r11 x4 0
  else
    f_X8_outer_B30 r3 r11 x4 1))
set_option maxHeartbeats 4000000 in
set_option maxRecDepth 100000 in
theorem w_X8_outer_B0 {p : Program} {l : Launch} {e : Env} {s : State} {m : MethodId} {args : Array Value} {below : List Frame} {meth : Method} {c : Code} {r : Int32} (C0 : g_cx cX8_outer (some .int) 7 RX8 wsX8_outer p s m args meth c) : ∀ (x0 : Int32) (x1 : Int32) (x2 : Int32) (x3 : Int32) (x4 : Int32) (ls : Array Slot), f_X8_outer x0 x1 x2 x3 x4 = some r → lv_has ls 7 [(0, .int x0), (1, .int x1), (2, .int x2), (3, .int x3), (4, .int x4)] → W p l e rm_X8_outer s m args below meth c s.heap [] 0 0 (MQ below (g_SI r) args s 0 0 (fun _ => False)) (F0 m 0 ls []) := by
  obtain ⟨hx, hb, hr, hml, hown, hts, hlocks⟩ := id C0
  intro x0 x1 x2 x3 x4 ls hf hl
  unfold f_X8_outer at hf
  refine lv_iload_n hx hb dX8_outer_0 rfl (lv_at hl 0 rfl) ?_
  refine lv_iload_n hx hb dX8_outer_1 rfl (lv_at hl 1 rfl) ?_
  refine lv_iload_n hx hb dX8_outer_2 rfl (lv_at hl 2 rfl) ?_
  obtain ⟨r3, hg3, hf⟩ := o_b1_go hf
  refine g_callSi (rest := []) ⟨hx, hb, hml, hown, hts⟩ (c_X8_reckoned l hg3) (va_cwS 3 hts gX8_outer_X8_reckoned rfl rfl rfl (by decide +kernel) ⟨Nat.le_of_ble_eq_true rfl, Nat.le_of_ble_eq_true rfl⟩) rfl hl.1 rfl (Nat.le_of_ble_eq_true rfl) dX8_outer_3 ?_
  refine lv_istore (lv' := [(5, .int r3), (0, .int x0), (1, .int x1), (2, .int x2), (3, .int x3), (4, .int x4)]) hx hb dX8_outer_6 hl (by decide) rfl (fun ls hl => ?_)
  refine lv_iload_n hx hb dX8_outer_8 rfl (lv_at hl 1 rfl) ?_
  refine lv_iload_n hx hb dX8_outer_9 rfl (lv_at hl 2 rfl) ?_
  refine lv_iload_n hx hb dX8_outer_10 rfl (lv_at hl 4 rfl) ?_
  obtain ⟨r11, hg11, hf⟩ := o_b1_go hf
  refine g_callSi (rest := []) ⟨hx, hb, hml, hown, hts⟩ (c_X8_reckoned l hg11) (va_cwS 3 hts gX8_outer_X8_reckoned rfl rfl rfl (by decide +kernel) ⟨Nat.le_of_ble_eq_true rfl, Nat.le_of_ble_eq_true rfl⟩) rfl hl.1 rfl (Nat.le_of_ble_eq_true rfl) dX8_outer_11 ?_
  refine lv_istore (lv' := [(6, .int r11), (5, .int r3), (0, .int x0), (1, .int x1), (2, .int x2), (3, .int x3), (4, .int x4)]) hx hb dX8_outer_14 hl (by decide) rfl (fun ls hl => ?_)
  refine lv_iload hx hb dX8_outer_16 (lv_at hl 6 rfl) ?_
  refine lv_iload hx hb dX8_outer_18 (lv_at hl 1 rfl) ?_
  refine lv_iload hx hb dX8_outer_20 (lv_at hl 0 rfl) ?_
  refine lv_icmp_le (tgt := 29) hx hb dX8_outer_22 (by decide) (fun c22 => ?_) (fun c22 => ?_)
  · replace hf := o_t c22 hf
    refine lv_iconst (v := 0) hx hb dX8_outer_29 (by decide) ?_
    exact w_X8_outer_B30 C0 r3 r11 x4 0 ls hf (lv_sub hl [1, 0] rfl)
  · replace hf := o_f c22 hf
    refine lv_iconst (v := 1) hx hb dX8_outer_25 (by decide) ?_
    refine lv_goto (tgt := 30) hx hb dX8_outer_26 (by decide) ?_
    exact w_X8_outer_B30 C0 r3 r11 x4 1 ls hf (lv_sub hl [1, 0] rfl)
set_option maxHeartbeats 4000000 in
set_option maxRecDepth 100000 in
theorem c_X8_outer (l : Launch) {x0 : Int32} {x1 : Int32} {x2 : Int32} {x3 : Int32} {x4 : Int32} {r : Int32} (hf : f_X8_outer x0 x1 x2 x3 x4 = some r) : Met l yX8_outer wsX8_outer rm_X8_outer (g_PS [.int x0, .int x1, .int x2, .int x3, .int x4]) (g_SI r) 0 0 (fun _ => False) := by
  refine g_metS (cc := cX8_outer) (maxL := 7) (ret := (some .int)) (by decide) rfl ?_
  intro p e s m below meth c C0
  have hl := lv_entry ([.int x0, .int x1, .int x2, .int x3, .int x4]) (n := 7) (Nat.le_of_ble_eq_true rfl)
  rw [lg_entry_eq]
  generalize (lg_sl ([.int x0, .int x1, .int x2, .int x3, .int x4]) ++ List.replicate (7 - (lg_sl ([.int x0, .int x1, .int x2, .int x3, .int x4])).length) Slot.unset).toArray = ls at hl ⊢
  have hl : lv_has ls 7 [(0, .int x0), (1, .int x1), (2, .int x2), (3, .int x3), (4, .int x4)] := hl
  exact w_X8_outer_B0 C0 x0 x1 x2 x3 x4 ls hf (lv_sub hl [0, 1, 2, 3, 4] rfl)
/-! FloatBoxesModel.floorHalf(J)J -/
abbrev rm_X8_floorHalf : Room := { frames := 0, cells := 0, slots := 0, locals := 0 }
def f_X8_floorHalf  (x0 : Int64) : Option (Int64) :=
  if (lg_cmp x0 0) < 0 then
    some ((x0 - 1) / 2)
  else
    some (x0 / 2)
set_option maxHeartbeats 4000000 in
set_option maxRecDepth 100000 in
theorem w_X8_floorHalf_B0 {p : Program} {l : Launch} {e : Env} {s : State} {m : MethodId} {args : Array Value} {below : List Frame} {meth : Method} {c : Code} {r : Int64} (C0 : g_cx cX8_floorHalf (some .long) 2 RX8 wsX8_floorHalf p s m args meth c) : ∀ (x0 : Int64) (ls : Array Slot), f_X8_floorHalf x0 = some r → lv_has ls 2 [(0, .long x0)] → W p l e rm_X8_floorHalf s m args below meth c s.heap [] 0 0 (MQ below (g_SL r) args s 0 0 (fun _ => False)) (F0 m 0 ls []) := by
  obtain ⟨hx, hb, hr, hml, hown, hts, hlocks⟩ := id C0
  intro x0 ls hf hl
  unfold f_X8_floorHalf at hf
  refine lv_lload_n hx hb dX8_floorHalf_0 rfl (lv_at hl 0 rfl) ?_
  refine lv_lconst (v := 0) hx hb dX8_floorHalf_1 (by decide) ?_
  refine W.lcmp hx hb dX8_floorHalf_2 ?_
  refine lv_if_lt (tgt := 14) hx hb dX8_floorHalf_3 (by decide) (fun c3 => ?_) (fun c3 => ?_)
  · replace hf := o_t c3 hf
    refine lv_lload_n hx hb dX8_floorHalf_14 rfl (lv_at hl 0 rfl) ?_
    refine lv_lconst (v := 1) hx hb dX8_floorHalf_15 (by decide) ?_
    refine lv_lsub hx hb dX8_floorHalf_16 ?_
    refine lv_ldc2 (v := 2) hx hb hown (hts (.constantLong RX8 149 (2)) (List.mem_cons_of_mem _ (List.mem_of_getElem? (i := 0) rfl))) dX8_floorHalf_17 ?_
    refine lv_ldiv hx hb dX8_floorHalf_20 (by decide) ?_
    have q0 := Option.some.inj hf
    subst q0
    exact g_slret hx hb hr hlocks dX8_floorHalf_21
  · replace hf := o_f c3 hf
    refine lv_lload_n hx hb dX8_floorHalf_6 rfl (lv_at hl 0 rfl) ?_
    refine lv_ldc2 (v := 2) hx hb hown (hts (.constantLong RX8 149 (2)) (List.mem_cons_of_mem _ (List.mem_of_getElem? (i := 0) rfl))) dX8_floorHalf_7 ?_
    refine lv_ldiv hx hb dX8_floorHalf_10 (by decide) ?_
    refine lv_goto (tgt := 21) hx hb dX8_floorHalf_11 (by decide) ?_
    have q0 := Option.some.inj hf
    subst q0
    exact g_slret hx hb hr hlocks dX8_floorHalf_21
set_option maxHeartbeats 4000000 in
set_option maxRecDepth 100000 in
theorem c_X8_floorHalf (l : Launch) {x0 : Int64} {r : Int64} (hf : f_X8_floorHalf x0 = some r) : Met l yX8_floorHalf wsX8_floorHalf rm_X8_floorHalf (g_PS [.long x0]) (g_SL r) 0 0 (fun _ => False) := by
  refine g_metS (cc := cX8_floorHalf) (maxL := 2) (ret := (some .long)) (by decide) rfl ?_
  intro p e s m below meth c C0
  have hl := lv_entry ([.long x0]) (n := 2) (Nat.le_of_ble_eq_true rfl)
  rw [lg_entry_eq]
  generalize (lg_sl ([.long x0]) ++ List.replicate (2 - (lg_sl ([.long x0])).length) Slot.unset).toArray = ls at hl ⊢
  have hl : lv_has ls 2 [(0, .long x0)] := hl
  exact w_X8_floorHalf_B0 C0 x0 ls hf (lv_sub hl [0] rfl)
/-! FloatBoxesModel.firstRising(IIIIII)J -/
abbrev rm_X8_firstRising : Room := { frames := 6, cells := 0, slots := 0, locals := 133 }
def f_X8_firstRising_B79 (N : Nat) (k10 : Int32 → Int32 → Int32 → Int32 → Int64 → Int64 → Option (Int64)) (x0 : Int32) (x3 : Int32) (x4 : Int32) (x5 : Int32) (x6 : Int64) (z0 : Int64) : Option (Int64) :=
  k10 x0 x3 x4 x5 x6 z0
set_option maxHeartbeats 4000000 in
set_option maxRecDepth 100000 in
theorem w_X8_firstRising_B79 {p : Program} {l : Launch} {e : Env} {s : State} {m : MethodId} {args : Array Value} {below : List Frame} {meth : Method} {c : Code} {N : Nat} {r : Int64} (C0 : g_cx cX8_firstRising (some .long) 13 RX8 wsX8_firstRising p s m args meth c) (k10 : Int32 → Int32 → Int32 → Int32 → Int64 → Int64 → Option (Int64)) (hk10 : ∀ (x0 : Int32) (x3 : Int32) (x4 : Int32) (x5 : Int32) (x6 : Int64) (x8 : Int64) (ls : Array Slot), k10 x0 x3 x4 x5 x6 x8 = some r → lv_has ls 13 [(0, .int x0), (3, .int x3), (4, .int x4), (5, .int x5), (6, .long x6), (8, .long x8)] → W p l e rm_X8_firstRising s m args below meth c s.heap [] 0 0 (MQ below (g_SL r) args s 0 0 (fun _ => False)) (F0 m 10 ls [])) : ∀ (x0 : Int32) (x3 : Int32) (x4 : Int32) (x5 : Int32) (x6 : Int64) (z0 : Int64) (ls : Array Slot), f_X8_firstRising_B79 N k10 x0 x3 x4 x5 x6 z0 = some r → lv_has ls 13 [(0, .int x0), (3, .int x3), (4, .int x4), (5, .int x5), (6, .long x6)] → W p l e rm_X8_firstRising s m args below meth c s.heap [] 0 0 (MQ below (g_SL r) args s 0 0 (fun _ => False)) (F0 m 79 ls [.long z0]) := by
  obtain ⟨hx, hb, hr, hml, hown, hts, hlocks⟩ := id C0
  intro x0 x3 x4 x5 x6 z0 ls hf hl
  unfold f_X8_firstRising_B79 at hf
  refine lv_lstore (lv' := [(8, .long z0), (0, .int x0), (3, .int x3), (4, .int x4), (5, .int x5), (6, .long x6)]) hx hb dX8_firstRising_79 hl (by decide) rfl (fun ls hl => ?_)
  refine lv_goto (tgt := 10) hx hb dX8_firstRising_81 (by decide) ?_
  exact hk10 x0 x3 x4 x5 x6 z0 ls hf (lv_sub hl [1, 2, 3, 4, 5, 0] rfl)
def f_X8_firstRising_B65 (N : Nat) (k10 : Int32 → Int32 → Int32 → Int32 → Int64 → Int64 → Option (Int64)) (x0 : Int32) (x3 : Int32) (x4 : Int32) (x5 : Int32) (x8 : Int64) (x10 : Int64) (x12 : Int32) (z0 : Int64) : Option (Int64) :=
  if x12 = 0 then
    f_X8_firstRising_B79 N k10 x0 x3 x4 x5 z0 x8
  else
    f_X8_firstRising_B79 N k10 x0 x3 x4 x5 z0 x10
set_option maxHeartbeats 4000000 in
set_option maxRecDepth 100000 in
theorem w_X8_firstRising_B65 {p : Program} {l : Launch} {e : Env} {s : State} {m : MethodId} {args : Array Value} {below : List Frame} {meth : Method} {c : Code} {N : Nat} {r : Int64} (C0 : g_cx cX8_firstRising (some .long) 13 RX8 wsX8_firstRising p s m args meth c) (k10 : Int32 → Int32 → Int32 → Int32 → Int64 → Int64 → Option (Int64)) (hk10 : ∀ (x0 : Int32) (x3 : Int32) (x4 : Int32) (x5 : Int32) (x6 : Int64) (x8 : Int64) (ls : Array Slot), k10 x0 x3 x4 x5 x6 x8 = some r → lv_has ls 13 [(0, .int x0), (3, .int x3), (4, .int x4), (5, .int x5), (6, .long x6), (8, .long x8)] → W p l e rm_X8_firstRising s m args below meth c s.heap [] 0 0 (MQ below (g_SL r) args s 0 0 (fun _ => False)) (F0 m 10 ls [])) : ∀ (x0 : Int32) (x3 : Int32) (x4 : Int32) (x5 : Int32) (x8 : Int64) (x10 : Int64) (x12 : Int32) (z0 : Int64) (ls : Array Slot), f_X8_firstRising_B65 N k10 x0 x3 x4 x5 x8 x10 x12 z0 = some r → lv_has ls 13 [(0, .int x0), (3, .int x3), (4, .int x4), (5, .int x5), (8, .long x8), (10, .long x10), (12, .int x12)] → W p l e rm_X8_firstRising s m args below meth c s.heap [] 0 0 (MQ below (g_SL r) args s 0 0 (fun _ => False)) (F0 m 65 ls [.long z0]) := by
  obtain ⟨hx, hb, hr, hml, hown, hts, hlocks⟩ := id C0
  intro x0 x3 x4 x5 x8 x10 x12 z0 ls hf hl
  unfold f_X8_firstRising_B65 at hf
  refine lv_lstore (lv' := [(6, .long z0), (0, .int x0), (3, .int x3), (4, .int x4), (5, .int x5), (8, .long x8), (10, .long x10), (12, .int x12)]) hx hb dX8_firstRising_65 hl (by decide) rfl (fun ls hl => ?_)
  refine lv_iload hx hb dX8_firstRising_67 (lv_at hl 7 rfl) ?_
  refine lv_if_eq (tgt := 77) hx hb dX8_firstRising_69 (by decide) (fun c69 => ?_) (fun c69 => ?_)
  · replace hf := o_t c69 hf
    refine lv_lload hx hb dX8_firstRising_77 (lv_at hl 5 rfl) ?_
    exact w_X8_firstRising_B79 C0 k10 hk10 x0 x3 x4 x5 z0 x8 ls hf (lv_sub hl [1, 2, 3, 4, 0] rfl)
  · replace hf := o_f c69 hf
    refine lv_lload hx hb dX8_firstRising_72 (lv_at hl 6 rfl) ?_
    refine lv_goto (tgt := 79) hx hb dX8_firstRising_74 (by decide) ?_
    exact w_X8_firstRising_B79 C0 k10 hk10 x0 x3 x4 x5 z0 x10 ls hf (lv_sub hl [1, 2, 3, 4, 0] rfl)
def f_X8_firstRising_B49 (N : Nat) (k10 : Int32 → Int32 → Int32 → Int32 → Int64 → Int64 → Option (Int64)) (x0 : Int32) (x3 : Int32) (x4 : Int32) (x5 : Int32) (x6 : Int64) (x8 : Int64) (x10 : Int64) (z0 : Int32) : Option (Int64) :=
  if z0 = 0 then
    f_X8_firstRising_B65 N k10 x0 x3 x4 x5 x8 x10 z0 (x10 + 1)
  else
    f_X8_firstRising_B65 N k10 x0 x3 x4 x5 x8 x10 z0 x6
set_option maxHeartbeats 4000000 in
set_option maxRecDepth 100000 in
theorem w_X8_firstRising_B49 {p : Program} {l : Launch} {e : Env} {s : State} {m : MethodId} {args : Array Value} {below : List Frame} {meth : Method} {c : Code} {N : Nat} {r : Int64} (C0 : g_cx cX8_firstRising (some .long) 13 RX8 wsX8_firstRising p s m args meth c) (k10 : Int32 → Int32 → Int32 → Int32 → Int64 → Int64 → Option (Int64)) (hk10 : ∀ (x0 : Int32) (x3 : Int32) (x4 : Int32) (x5 : Int32) (x6 : Int64) (x8 : Int64) (ls : Array Slot), k10 x0 x3 x4 x5 x6 x8 = some r → lv_has ls 13 [(0, .int x0), (3, .int x3), (4, .int x4), (5, .int x5), (6, .long x6), (8, .long x8)] → W p l e rm_X8_firstRising s m args below meth c s.heap [] 0 0 (MQ below (g_SL r) args s 0 0 (fun _ => False)) (F0 m 10 ls [])) : ∀ (x0 : Int32) (x3 : Int32) (x4 : Int32) (x5 : Int32) (x6 : Int64) (x8 : Int64) (x10 : Int64) (z0 : Int32) (ls : Array Slot), f_X8_firstRising_B49 N k10 x0 x3 x4 x5 x6 x8 x10 z0 = some r → lv_has ls 13 [(0, .int x0), (3, .int x3), (4, .int x4), (5, .int x5), (6, .long x6), (8, .long x8), (10, .long x10)] → W p l e rm_X8_firstRising s m args below meth c s.heap [] 0 0 (MQ below (g_SL r) args s 0 0 (fun _ => False)) (F0 m 49 ls [.int z0]) := by
  obtain ⟨hx, hb, hr, hml, hown, hts, hlocks⟩ := id C0
  intro x0 x3 x4 x5 x6 x8 x10 z0 ls hf hl
  unfold f_X8_firstRising_B49 at hf
  refine lv_istore (lv' := [(12, .int z0), (0, .int x0), (3, .int x3), (4, .int x4), (5, .int x5), (6, .long x6), (8, .long x8), (10, .long x10)]) hx hb dX8_firstRising_49 hl (by decide) rfl (fun ls hl => ?_)
  refine lv_iload hx hb dX8_firstRising_51 (lv_at hl 0 rfl) ?_
  refine lv_if_eq (tgt := 61) hx hb dX8_firstRising_53 (by decide) (fun c53 => ?_) (fun c53 => ?_)
  · replace hf := o_t c53 hf
    refine lv_lload hx hb dX8_firstRising_61 (lv_at hl 7 rfl) ?_
    refine lv_lconst (v := 1) hx hb dX8_firstRising_63 (by decide) ?_
    refine lv_ladd hx hb dX8_firstRising_64 ?_
    exact w_X8_firstRising_B65 C0 k10 hk10 x0 x3 x4 x5 x8 x10 z0 (x10 + 1) ls hf (lv_sub hl [1, 2, 3, 4, 6, 7, 0] rfl)
  · replace hf := o_f c53 hf
    refine lv_lload hx hb dX8_firstRising_56 (lv_at hl 5 rfl) ?_
    refine lv_goto (tgt := 65) hx hb dX8_firstRising_58 (by decide) ?_
    exact w_X8_firstRising_B65 C0 k10 hk10 x0 x3 x4 x5 x8 x10 z0 x6 ls hf (lv_sub hl [1, 2, 3, 4, 6, 7, 0] rfl)
def f_X8_firstRising_C10 (N : Nat) (k10 : Int32 → Int32 → Int32 → Int32 → Int64 → Int64 → Option (Int64)) (x0 : Int32) (x3 : Int32) (x4 : Int32) (x5 : Int32) (x6 : Int64) (x8 : Int64) : Option (Int64) :=
  if 0 ≤ (lg_cmp x6 x8) then
    some x6
  else
    o_b1 (f_X8_floorHalf (x6 + x8)) (fun (r23 : Int64) =>
    o_b1 (f_X8_outer x0 r23.toInt32 x3 x4 1) (fun (r36 : Int32) =>
    if r36 < x5 then
      f_X8_firstRising_B49 N k10 x0 x3 x4 x5 x6 x8 r23 0
    else
      f_X8_firstRising_B49 N k10 x0 x3 x4 x5 x6 x8 r23 1))
def f_X8_firstRising_L10 (N : Nat) : Nat → Int32 → Int32 → Int32 → Int32 → Int64 → Int64 → Option (Int64)
  | 0 => fun _ _ _ _ _ _ => none
  | n + 1 => f_X8_firstRising_C10 N (f_X8_firstRising_L10 N n)
set_option maxHeartbeats 4000000 in
set_option maxRecDepth 100000 in
theorem w_X8_firstRising_C10 {p : Program} {l : Launch} {e : Env} {s : State} {m : MethodId} {args : Array Value} {below : List Frame} {meth : Method} {c : Code} {N : Nat} {r : Int64} (C0 : g_cx cX8_firstRising (some .long) 13 RX8 wsX8_firstRising p s m args meth c) (k10 : Int32 → Int32 → Int32 → Int32 → Int64 → Int64 → Option (Int64)) (hk10 : ∀ (x0 : Int32) (x3 : Int32) (x4 : Int32) (x5 : Int32) (x6 : Int64) (x8 : Int64) (ls : Array Slot), k10 x0 x3 x4 x5 x6 x8 = some r → lv_has ls 13 [(0, .int x0), (3, .int x3), (4, .int x4), (5, .int x5), (6, .long x6), (8, .long x8)] → W p l e rm_X8_firstRising s m args below meth c s.heap [] 0 0 (MQ below (g_SL r) args s 0 0 (fun _ => False)) (F0 m 10 ls [])) : ∀ (x0 : Int32) (x3 : Int32) (x4 : Int32) (x5 : Int32) (x6 : Int64) (x8 : Int64) (ls : Array Slot), f_X8_firstRising_C10 N k10 x0 x3 x4 x5 x6 x8 = some r → lv_has ls 13 [(0, .int x0), (3, .int x3), (4, .int x4), (5, .int x5), (6, .long x6), (8, .long x8)] → W p l e rm_X8_firstRising s m args below meth c s.heap [] 0 0 (MQ below (g_SL r) args s 0 0 (fun _ => False)) (F0 m 10 ls []) := by
  obtain ⟨hx, hb, hr, hml, hown, hts, hlocks⟩ := id C0
  intro x0 x3 x4 x5 x6 x8 ls hf hl
  unfold f_X8_firstRising_C10 at hf
  refine lv_lload hx hb dX8_firstRising_10 (lv_at hl 4 rfl) ?_
  refine lv_lload hx hb dX8_firstRising_12 (lv_at hl 5 rfl) ?_
  refine W.lcmp hx hb dX8_firstRising_14 ?_
  refine lv_if_ge (tgt := 84) hx hb dX8_firstRising_15 (by decide) (fun c15 => ?_) (fun c15 => ?_)
  · replace hf := o_t c15 hf
    refine lv_lload hx hb dX8_firstRising_84 (lv_at hl 4 rfl) ?_
    have q0 := Option.some.inj hf
    subst q0
    exact g_slret hx hb hr hlocks dX8_firstRising_86
  · replace hf := o_f c15 hf
    refine lv_lload hx hb dX8_firstRising_18 (lv_at hl 4 rfl) ?_
    refine lv_lload hx hb dX8_firstRising_20 (lv_at hl 5 rfl) ?_
    refine lv_ladd hx hb dX8_firstRising_22 ?_
    obtain ⟨r23, hg23, hf⟩ := o_b1_go hf
    refine g_callSl (rest := []) ⟨hx, hb, hml, hown, hts⟩ (c_X8_floorHalf l hg23) (va_cwS 1 hts gX8_firstRising_X8_floorHalf rfl rfl rfl (by decide +kernel) ⟨Nat.le_of_ble_eq_true rfl, Nat.le_of_ble_eq_true rfl⟩) rfl hl.1 rfl (Nat.le_of_ble_eq_true rfl) dX8_firstRising_23 ?_
    refine lv_lstore (lv' := [(10, .long r23), (0, .int x0), (3, .int x3), (4, .int x4), (5, .int x5), (6, .long x6), (8, .long x8)]) hx hb dX8_firstRising_26 hl (by decide) rfl (fun ls hl => ?_)
    refine lv_iload_n hx hb dX8_firstRising_28 rfl (lv_at hl 1 rfl) ?_
    refine lv_lload hx hb dX8_firstRising_29 (lv_at hl 0 rfl) ?_
    refine lv_l2i hx hb dX8_firstRising_31 rfl ?_
    refine lv_iload_n hx hb dX8_firstRising_32 rfl (lv_at hl 2 rfl) ?_
    refine lv_iload hx hb dX8_firstRising_33 (lv_at hl 3 rfl) ?_
    refine lv_iconst (v := 1) hx hb dX8_firstRising_35 (by decide) ?_
    obtain ⟨r36, hg36, hf⟩ := o_b1_go hf
    refine g_callSi (rest := []) ⟨hx, hb, hml, hown, hts⟩ (c_X8_outer l hg36) (va_cwS 5 hts gX8_firstRising_X8_outer rfl rfl rfl (by decide +kernel) ⟨Nat.le_of_ble_eq_true rfl, Nat.le_of_ble_eq_true rfl⟩) rfl hl.1 rfl (Nat.le_of_ble_eq_true rfl) dX8_firstRising_36 ?_
    refine lv_iload hx hb dX8_firstRising_39 (lv_at hl 4 rfl) ?_
    refine lv_icmp_lt (tgt := 48) hx hb dX8_firstRising_41 (by decide) (fun c41 => ?_) (fun c41 => ?_)
    · replace hf := o_t c41 hf
      refine lv_iconst (v := 0) hx hb dX8_firstRising_48 (by decide) ?_
      exact w_X8_firstRising_B49 C0 k10 hk10 x0 x3 x4 x5 x6 x8 r23 0 ls hf (lv_sub hl [1, 2, 3, 4, 5, 6, 0] rfl)
    · replace hf := o_f c41 hf
      refine lv_iconst (v := 1) hx hb dX8_firstRising_44 (by decide) ?_
      refine lv_goto (tgt := 49) hx hb dX8_firstRising_45 (by decide) ?_
      exact w_X8_firstRising_B49 C0 k10 hk10 x0 x3 x4 x5 x6 x8 r23 1 ls hf (lv_sub hl [1, 2, 3, 4, 5, 6, 0] rfl)
set_option maxHeartbeats 4000000 in
set_option maxRecDepth 100000 in
theorem w_X8_firstRising_L10 {p : Program} {l : Launch} {e : Env} {s : State} {m : MethodId} {args : Array Value} {below : List Frame} {meth : Method} {c : Code} {N : Nat} {r : Int64} (C0 : g_cx cX8_firstRising (some .long) 13 RX8 wsX8_firstRising p s m args meth c) : ∀ n : Nat, ∀ (x0 : Int32) (x3 : Int32) (x4 : Int32) (x5 : Int32) (x6 : Int64) (x8 : Int64) (ls : Array Slot), f_X8_firstRising_L10 N n x0 x3 x4 x5 x6 x8 = some r → lv_has ls 13 [(0, .int x0), (3, .int x3), (4, .int x4), (5, .int x5), (6, .long x6), (8, .long x8)] → W p l e rm_X8_firstRising s m args below meth c s.heap [] 0 0 (MQ below (g_SL r) args s 0 0 (fun _ => False)) (F0 m 10 ls []) := by
  intro n
  induction n with
  | zero =>
    intro x0 x3 x4 x5 x6 x8 ls hf
    exact absurd hf (fun h => nomatch h)
  | succ n ih =>
    intro x0 x3 x4 x5 x6 x8 ls hf
    exact w_X8_firstRising_C10 C0 _ ih x0 x3 x4 x5 x6 x8 ls hf
def f_X8_firstRising (N : Nat) (x0 : Int32) (x1 : Int32) (x2 : Int32) (x3 : Int32) (x4 : Int32) (x5 : Int32) : Option (Int64) :=
  o_nm (x2.toInt64 + 1) (fun (t8 : Int64) =>
  f_X8_firstRising_L10 N N x0 x3 x4 x5 x1.toInt64 t8)
set_option maxHeartbeats 4000000 in
set_option maxRecDepth 100000 in
theorem w_X8_firstRising_B0 {p : Program} {l : Launch} {e : Env} {s : State} {m : MethodId} {args : Array Value} {below : List Frame} {meth : Method} {c : Code} {N : Nat} {r : Int64} (C0 : g_cx cX8_firstRising (some .long) 13 RX8 wsX8_firstRising p s m args meth c) : ∀ (x0 : Int32) (x1 : Int32) (x2 : Int32) (x3 : Int32) (x4 : Int32) (x5 : Int32) (ls : Array Slot), f_X8_firstRising N x0 x1 x2 x3 x4 x5 = some r → lv_has ls 13 [(0, .int x0), (1, .int x1), (2, .int x2), (3, .int x3), (4, .int x4), (5, .int x5)] → W p l e rm_X8_firstRising s m args below meth c s.heap [] 0 0 (MQ below (g_SL r) args s 0 0 (fun _ => False)) (F0 m 0 ls []) := by
  obtain ⟨hx, hb, hr, hml, hown, hts, hlocks⟩ := id C0
  intro x0 x1 x2 x3 x4 x5 ls hf hl
  unfold f_X8_firstRising at hf
  refine lv_iload_n hx hb dX8_firstRising_0 rfl (lv_at hl 1 rfl) ?_
  refine lv_i2l hx hb dX8_firstRising_1 rfl ?_
  refine lv_lstore (lv' := [(6, .long x1.toInt64), (0, .int x0), (1, .int x1), (2, .int x2), (3, .int x3), (4, .int x4), (5, .int x5)]) hx hb dX8_firstRising_2 hl (by decide) rfl (fun ls hl => ?_)
  refine lv_iload_n hx hb dX8_firstRising_4 rfl (lv_at hl 3 rfl) ?_
  refine lv_i2l hx hb dX8_firstRising_5 rfl ?_
  refine lv_lconst (v := 1) hx hb dX8_firstRising_6 (by decide) ?_
  refine lv_ladd hx hb dX8_firstRising_7 ?_
  refine lv_topl (fun t8 et8 => ?_)
  replace hf := o_nm_go et8 hf
  refine lv_lstore (lv' := [(8, .long t8), (6, .long x1.toInt64), (0, .int x0), (1, .int x1), (2, .int x2), (3, .int x3), (4, .int x4), (5, .int x5)]) hx hb dX8_firstRising_8 hl (by decide) rfl (fun ls hl => ?_)
  exact w_X8_firstRising_L10 C0 N x0 x3 x4 x5 x1.toInt64 t8 ls hf (lv_sub hl [2, 5, 6, 7, 1, 0] rfl)
set_option maxHeartbeats 4000000 in
set_option maxRecDepth 100000 in
theorem c_X8_firstRising (l : Launch) {N : Nat} {x0 : Int32} {x1 : Int32} {x2 : Int32} {x3 : Int32} {x4 : Int32} {x5 : Int32} {r : Int64} (hf : f_X8_firstRising N x0 x1 x2 x3 x4 x5 = some r) : Met l yX8_firstRising wsX8_firstRising rm_X8_firstRising (g_PS [.int x0, .int x1, .int x2, .int x3, .int x4, .int x5]) (g_SL r) 0 0 (fun _ => False) := by
  refine g_metS (cc := cX8_firstRising) (maxL := 13) (ret := (some .long)) (by decide) rfl ?_
  intro p e s m below meth c C0
  have hl := lv_entry ([.int x0, .int x1, .int x2, .int x3, .int x4, .int x5]) (n := 13) (Nat.le_of_ble_eq_true rfl)
  rw [lg_entry_eq]
  generalize (lg_sl ([.int x0, .int x1, .int x2, .int x3, .int x4, .int x5]) ++ List.replicate (13 - (lg_sl ([.int x0, .int x1, .int x2, .int x3, .int x4, .int x5])).length) Slot.unset).toArray = ls at hl ⊢
  have hl : lv_has ls 13 [(0, .int x0), (1, .int x1), (2, .int x2), (3, .int x3), (4, .int x4), (5, .int x5)] := hl
  exact w_X8_firstRising_B0 C0 x0 x1 x2 x3 x4 x5 ls hf (lv_sub hl [0, 1, 2, 3, 4, 5] rfl)
/-! FloatBoxesModel.lastRising(IIIIII)J -/
abbrev rm_X8_lastRising : Room := { frames := 6, cells := 0, slots := 0, locals := 133 }
def f_X8_lastRising_B81 (N : Nat) (k10 : Int32 → Int32 → Int32 → Int32 → Int64 → Int64 → Option (Int64)) (x0 : Int32) (x3 : Int32) (x4 : Int32) (x5 : Int32) (x6 : Int64) (z0 : Int64) : Option (Int64) :=
  k10 x0 x3 x4 x5 x6 z0
set_option maxHeartbeats 4000000 in
set_option maxRecDepth 100000 in
theorem w_X8_lastRising_B81 {p : Program} {l : Launch} {e : Env} {s : State} {m : MethodId} {args : Array Value} {below : List Frame} {meth : Method} {c : Code} {N : Nat} {r : Int64} (C0 : g_cx cX8_lastRising (some .long) 13 RX8 wsX8_lastRising p s m args meth c) (k10 : Int32 → Int32 → Int32 → Int32 → Int64 → Int64 → Option (Int64)) (hk10 : ∀ (x0 : Int32) (x3 : Int32) (x4 : Int32) (x5 : Int32) (x6 : Int64) (x8 : Int64) (ls : Array Slot), k10 x0 x3 x4 x5 x6 x8 = some r → lv_has ls 13 [(0, .int x0), (3, .int x3), (4, .int x4), (5, .int x5), (6, .long x6), (8, .long x8)] → W p l e rm_X8_lastRising s m args below meth c s.heap [] 0 0 (MQ below (g_SL r) args s 0 0 (fun _ => False)) (F0 m 10 ls [])) : ∀ (x0 : Int32) (x3 : Int32) (x4 : Int32) (x5 : Int32) (x6 : Int64) (z0 : Int64) (ls : Array Slot), f_X8_lastRising_B81 N k10 x0 x3 x4 x5 x6 z0 = some r → lv_has ls 13 [(0, .int x0), (3, .int x3), (4, .int x4), (5, .int x5), (6, .long x6)] → W p l e rm_X8_lastRising s m args below meth c s.heap [] 0 0 (MQ below (g_SL r) args s 0 0 (fun _ => False)) (F0 m 81 ls [.long z0]) := by
  obtain ⟨hx, hb, hr, hml, hown, hts, hlocks⟩ := id C0
  intro x0 x3 x4 x5 x6 z0 ls hf hl
  unfold f_X8_lastRising_B81 at hf
  refine lv_lstore (lv' := [(8, .long z0), (0, .int x0), (3, .int x3), (4, .int x4), (5, .int x5), (6, .long x6)]) hx hb dX8_lastRising_81 hl (by decide) rfl (fun ls hl => ?_)
  refine lv_goto (tgt := 10) hx hb dX8_lastRising_83 (by decide) ?_
  exact hk10 x0 x3 x4 x5 x6 z0 ls hf (lv_sub hl [1, 2, 3, 4, 5, 0] rfl)
def f_X8_lastRising_B65 (N : Nat) (k10 : Int32 → Int32 → Int32 → Int32 → Int64 → Int64 → Option (Int64)) (x0 : Int32) (x3 : Int32) (x4 : Int32) (x5 : Int32) (x8 : Int64) (x10 : Int64) (x12 : Int32) (z0 : Int64) : Option (Int64) :=
  if x12 = 0 then
    f_X8_lastRising_B81 N k10 x0 x3 x4 x5 z0 (x10 - 1)
  else
    f_X8_lastRising_B81 N k10 x0 x3 x4 x5 z0 x8
set_option maxHeartbeats 4000000 in
set_option maxRecDepth 100000 in
theorem w_X8_lastRising_B65 {p : Program} {l : Launch} {e : Env} {s : State} {m : MethodId} {args : Array Value} {below : List Frame} {meth : Method} {c : Code} {N : Nat} {r : Int64} (C0 : g_cx cX8_lastRising (some .long) 13 RX8 wsX8_lastRising p s m args meth c) (k10 : Int32 → Int32 → Int32 → Int32 → Int64 → Int64 → Option (Int64)) (hk10 : ∀ (x0 : Int32) (x3 : Int32) (x4 : Int32) (x5 : Int32) (x6 : Int64) (x8 : Int64) (ls : Array Slot), k10 x0 x3 x4 x5 x6 x8 = some r → lv_has ls 13 [(0, .int x0), (3, .int x3), (4, .int x4), (5, .int x5), (6, .long x6), (8, .long x8)] → W p l e rm_X8_lastRising s m args below meth c s.heap [] 0 0 (MQ below (g_SL r) args s 0 0 (fun _ => False)) (F0 m 10 ls [])) : ∀ (x0 : Int32) (x3 : Int32) (x4 : Int32) (x5 : Int32) (x8 : Int64) (x10 : Int64) (x12 : Int32) (z0 : Int64) (ls : Array Slot), f_X8_lastRising_B65 N k10 x0 x3 x4 x5 x8 x10 x12 z0 = some r → lv_has ls 13 [(0, .int x0), (3, .int x3), (4, .int x4), (5, .int x5), (8, .long x8), (10, .long x10), (12, .int x12)] → W p l e rm_X8_lastRising s m args below meth c s.heap [] 0 0 (MQ below (g_SL r) args s 0 0 (fun _ => False)) (F0 m 65 ls [.long z0]) := by
  obtain ⟨hx, hb, hr, hml, hown, hts, hlocks⟩ := id C0
  intro x0 x3 x4 x5 x8 x10 x12 z0 ls hf hl
  unfold f_X8_lastRising_B65 at hf
  refine lv_lstore (lv' := [(6, .long z0), (0, .int x0), (3, .int x3), (4, .int x4), (5, .int x5), (8, .long x8), (10, .long x10), (12, .int x12)]) hx hb dX8_lastRising_65 hl (by decide) rfl (fun ls hl => ?_)
  refine lv_iload hx hb dX8_lastRising_67 (lv_at hl 7 rfl) ?_
  refine lv_if_eq (tgt := 77) hx hb dX8_lastRising_69 (by decide) (fun c69 => ?_) (fun c69 => ?_)
  · replace hf := o_t c69 hf
    refine lv_lload hx hb dX8_lastRising_77 (lv_at hl 6 rfl) ?_
    refine lv_lconst (v := 1) hx hb dX8_lastRising_79 (by decide) ?_
    refine lv_lsub hx hb dX8_lastRising_80 ?_
    exact w_X8_lastRising_B81 C0 k10 hk10 x0 x3 x4 x5 z0 (x10 - 1) ls hf (lv_sub hl [1, 2, 3, 4, 0] rfl)
  · replace hf := o_f c69 hf
    refine lv_lload hx hb dX8_lastRising_72 (lv_at hl 5 rfl) ?_
    refine lv_goto (tgt := 81) hx hb dX8_lastRising_74 (by decide) ?_
    exact w_X8_lastRising_B81 C0 k10 hk10 x0 x3 x4 x5 z0 x8 ls hf (lv_sub hl [1, 2, 3, 4, 0] rfl)
def f_X8_lastRising_B51 (N : Nat) (k10 : Int32 → Int32 → Int32 → Int32 → Int64 → Int64 → Option (Int64)) (x0 : Int32) (x3 : Int32) (x4 : Int32) (x5 : Int32) (x6 : Int64) (x8 : Int64) (x10 : Int64) (z0 : Int32) : Option (Int64) :=
  if z0 = 0 then
    f_X8_lastRising_B65 N k10 x0 x3 x4 x5 x8 x10 z0 x6
  else
    f_X8_lastRising_B65 N k10 x0 x3 x4 x5 x8 x10 z0 x10
set_option maxHeartbeats 4000000 in
set_option maxRecDepth 100000 in
theorem w_X8_lastRising_B51 {p : Program} {l : Launch} {e : Env} {s : State} {m : MethodId} {args : Array Value} {below : List Frame} {meth : Method} {c : Code} {N : Nat} {r : Int64} (C0 : g_cx cX8_lastRising (some .long) 13 RX8 wsX8_lastRising p s m args meth c) (k10 : Int32 → Int32 → Int32 → Int32 → Int64 → Int64 → Option (Int64)) (hk10 : ∀ (x0 : Int32) (x3 : Int32) (x4 : Int32) (x5 : Int32) (x6 : Int64) (x8 : Int64) (ls : Array Slot), k10 x0 x3 x4 x5 x6 x8 = some r → lv_has ls 13 [(0, .int x0), (3, .int x3), (4, .int x4), (5, .int x5), (6, .long x6), (8, .long x8)] → W p l e rm_X8_lastRising s m args below meth c s.heap [] 0 0 (MQ below (g_SL r) args s 0 0 (fun _ => False)) (F0 m 10 ls [])) : ∀ (x0 : Int32) (x3 : Int32) (x4 : Int32) (x5 : Int32) (x6 : Int64) (x8 : Int64) (x10 : Int64) (z0 : Int32) (ls : Array Slot), f_X8_lastRising_B51 N k10 x0 x3 x4 x5 x6 x8 x10 z0 = some r → lv_has ls 13 [(0, .int x0), (3, .int x3), (4, .int x4), (5, .int x5), (6, .long x6), (8, .long x8), (10, .long x10)] → W p l e rm_X8_lastRising s m args below meth c s.heap [] 0 0 (MQ below (g_SL r) args s 0 0 (fun _ => False)) (F0 m 51 ls [.int z0]) := by
  obtain ⟨hx, hb, hr, hml, hown, hts, hlocks⟩ := id C0
  intro x0 x3 x4 x5 x6 x8 x10 z0 ls hf hl
  unfold f_X8_lastRising_B51 at hf
  refine lv_istore (lv' := [(12, .int z0), (0, .int x0), (3, .int x3), (4, .int x4), (5, .int x5), (6, .long x6), (8, .long x8), (10, .long x10)]) hx hb dX8_lastRising_51 hl (by decide) rfl (fun ls hl => ?_)
  refine lv_iload hx hb dX8_lastRising_53 (lv_at hl 0 rfl) ?_
  refine lv_if_eq (tgt := 63) hx hb dX8_lastRising_55 (by decide) (fun c55 => ?_) (fun c55 => ?_)
  · replace hf := o_t c55 hf
    refine lv_lload hx hb dX8_lastRising_63 (lv_at hl 5 rfl) ?_
    exact w_X8_lastRising_B65 C0 k10 hk10 x0 x3 x4 x5 x8 x10 z0 x6 ls hf (lv_sub hl [1, 2, 3, 4, 6, 7, 0] rfl)
  · replace hf := o_f c55 hf
    refine lv_lload hx hb dX8_lastRising_58 (lv_at hl 7 rfl) ?_
    refine lv_goto (tgt := 65) hx hb dX8_lastRising_60 (by decide) ?_
    exact w_X8_lastRising_B65 C0 k10 hk10 x0 x3 x4 x5 x8 x10 z0 x10 ls hf (lv_sub hl [1, 2, 3, 4, 6, 7, 0] rfl)
def f_X8_lastRising_C10 (N : Nat) (k10 : Int32 → Int32 → Int32 → Int32 → Int64 → Int64 → Option (Int64)) (x0 : Int32) (x3 : Int32) (x4 : Int32) (x5 : Int32) (x6 : Int64) (x8 : Int64) : Option (Int64) :=
  if 0 ≤ (lg_cmp x6 x8) then
    some x6
  else
    o_b1 (f_X8_floorHalf ((x6 + x8) + 1)) (fun (r25 : Int64) =>
    o_b1 (f_X8_outer x0 r25.toInt32 x3 x4 0) (fun (r38 : Int32) =>
    if x5 < r38 then
      f_X8_lastRising_B51 N k10 x0 x3 x4 x5 x6 x8 r25 0
    else
      f_X8_lastRising_B51 N k10 x0 x3 x4 x5 x6 x8 r25 1))
def f_X8_lastRising_L10 (N : Nat) : Nat → Int32 → Int32 → Int32 → Int32 → Int64 → Int64 → Option (Int64)
  | 0 => fun _ _ _ _ _ _ => none
  | n + 1 => f_X8_lastRising_C10 N (f_X8_lastRising_L10 N n)
set_option maxHeartbeats 4000000 in
set_option maxRecDepth 100000 in
theorem w_X8_lastRising_C10 {p : Program} {l : Launch} {e : Env} {s : State} {m : MethodId} {args : Array Value} {below : List Frame} {meth : Method} {c : Code} {N : Nat} {r : Int64} (C0 : g_cx cX8_lastRising (some .long) 13 RX8 wsX8_lastRising p s m args meth c) (k10 : Int32 → Int32 → Int32 → Int32 → Int64 → Int64 → Option (Int64)) (hk10 : ∀ (x0 : Int32) (x3 : Int32) (x4 : Int32) (x5 : Int32) (x6 : Int64) (x8 : Int64) (ls : Array Slot), k10 x0 x3 x4 x5 x6 x8 = some r → lv_has ls 13 [(0, .int x0), (3, .int x3), (4, .int x4), (5, .int x5), (6, .long x6), (8, .long x8)] → W p l e rm_X8_lastRising s m args below meth c s.heap [] 0 0 (MQ below (g_SL r) args s 0 0 (fun _ => False)) (F0 m 10 ls [])) : ∀ (x0 : Int32) (x3 : Int32) (x4 : Int32) (x5 : Int32) (x6 : Int64) (x8 : Int64) (ls : Array Slot), f_X8_lastRising_C10 N k10 x0 x3 x4 x5 x6 x8 = some r → lv_has ls 13 [(0, .int x0), (3, .int x3), (4, .int x4), (5, .int x5), (6, .long x6), (8, .long x8)] → W p l e rm_X8_lastRising s m args below meth c s.heap [] 0 0 (MQ below (g_SL r) args s 0 0 (fun _ => False)) (F0 m 10 ls []) := by
  obtain ⟨hx, hb, hr, hml, hown, hts, hlocks⟩ := id C0
  intro x0 x3 x4 x5 x6 x8 ls hf hl
  unfold f_X8_lastRising_C10 at hf
  refine lv_lload hx hb dX8_lastRising_10 (lv_at hl 4 rfl) ?_
  refine lv_lload hx hb dX8_lastRising_12 (lv_at hl 5 rfl) ?_
  refine W.lcmp hx hb dX8_lastRising_14 ?_
  refine lv_if_ge (tgt := 86) hx hb dX8_lastRising_15 (by decide) (fun c15 => ?_) (fun c15 => ?_)
  · replace hf := o_t c15 hf
    refine lv_lload hx hb dX8_lastRising_86 (lv_at hl 4 rfl) ?_
    have q0 := Option.some.inj hf
    subst q0
    exact g_slret hx hb hr hlocks dX8_lastRising_88
  · replace hf := o_f c15 hf
    refine lv_lload hx hb dX8_lastRising_18 (lv_at hl 4 rfl) ?_
    refine lv_lload hx hb dX8_lastRising_20 (lv_at hl 5 rfl) ?_
    refine lv_ladd hx hb dX8_lastRising_22 ?_
    refine lv_lconst (v := 1) hx hb dX8_lastRising_23 (by decide) ?_
    refine lv_ladd hx hb dX8_lastRising_24 ?_
    obtain ⟨r25, hg25, hf⟩ := o_b1_go hf
    refine g_callSl (rest := []) ⟨hx, hb, hml, hown, hts⟩ (c_X8_floorHalf l hg25) (va_cwS 1 hts gX8_lastRising_X8_floorHalf rfl rfl rfl (by decide +kernel) ⟨Nat.le_of_ble_eq_true rfl, Nat.le_of_ble_eq_true rfl⟩) rfl hl.1 rfl (Nat.le_of_ble_eq_true rfl) dX8_lastRising_25 ?_
    refine lv_lstore (lv' := [(10, .long r25), (0, .int x0), (3, .int x3), (4, .int x4), (5, .int x5), (6, .long x6), (8, .long x8)]) hx hb dX8_lastRising_28 hl (by decide) rfl (fun ls hl => ?_)
    refine lv_iload_n hx hb dX8_lastRising_30 rfl (lv_at hl 1 rfl) ?_
    refine lv_lload hx hb dX8_lastRising_31 (lv_at hl 0 rfl) ?_
    refine lv_l2i hx hb dX8_lastRising_33 rfl ?_
    refine lv_iload_n hx hb dX8_lastRising_34 rfl (lv_at hl 2 rfl) ?_
    refine lv_iload hx hb dX8_lastRising_35 (lv_at hl 3 rfl) ?_
    refine lv_iconst (v := 0) hx hb dX8_lastRising_37 (by decide) ?_
    obtain ⟨r38, hg38, hf⟩ := o_b1_go hf
    refine g_callSi (rest := []) ⟨hx, hb, hml, hown, hts⟩ (c_X8_outer l hg38) (va_cwS 5 hts gX8_lastRising_X8_outer rfl rfl rfl (by decide +kernel) ⟨Nat.le_of_ble_eq_true rfl, Nat.le_of_ble_eq_true rfl⟩) rfl hl.1 rfl (Nat.le_of_ble_eq_true rfl) dX8_lastRising_38 ?_
    refine lv_iload hx hb dX8_lastRising_41 (lv_at hl 4 rfl) ?_
    refine lv_icmp_gt (tgt := 50) hx hb dX8_lastRising_43 (by decide) (fun c43 => ?_) (fun c43 => ?_)
    · replace hf := o_t c43 hf
      refine lv_iconst (v := 0) hx hb dX8_lastRising_50 (by decide) ?_
      exact w_X8_lastRising_B51 C0 k10 hk10 x0 x3 x4 x5 x6 x8 r25 0 ls hf (lv_sub hl [1, 2, 3, 4, 5, 6, 0] rfl)
    · replace hf := o_f c43 hf
      refine lv_iconst (v := 1) hx hb dX8_lastRising_46 (by decide) ?_
      refine lv_goto (tgt := 51) hx hb dX8_lastRising_47 (by decide) ?_
      exact w_X8_lastRising_B51 C0 k10 hk10 x0 x3 x4 x5 x6 x8 r25 1 ls hf (lv_sub hl [1, 2, 3, 4, 5, 6, 0] rfl)
set_option maxHeartbeats 4000000 in
set_option maxRecDepth 100000 in
theorem w_X8_lastRising_L10 {p : Program} {l : Launch} {e : Env} {s : State} {m : MethodId} {args : Array Value} {below : List Frame} {meth : Method} {c : Code} {N : Nat} {r : Int64} (C0 : g_cx cX8_lastRising (some .long) 13 RX8 wsX8_lastRising p s m args meth c) : ∀ n : Nat, ∀ (x0 : Int32) (x3 : Int32) (x4 : Int32) (x5 : Int32) (x6 : Int64) (x8 : Int64) (ls : Array Slot), f_X8_lastRising_L10 N n x0 x3 x4 x5 x6 x8 = some r → lv_has ls 13 [(0, .int x0), (3, .int x3), (4, .int x4), (5, .int x5), (6, .long x6), (8, .long x8)] → W p l e rm_X8_lastRising s m args below meth c s.heap [] 0 0 (MQ below (g_SL r) args s 0 0 (fun _ => False)) (F0 m 10 ls []) := by
  intro n
  induction n with
  | zero =>
    intro x0 x3 x4 x5 x6 x8 ls hf
    exact absurd hf (fun h => nomatch h)
  | succ n ih =>
    intro x0 x3 x4 x5 x6 x8 ls hf
    exact w_X8_lastRising_C10 C0 _ ih x0 x3 x4 x5 x6 x8 ls hf
def f_X8_lastRising (N : Nat) (x0 : Int32) (x1 : Int32) (x2 : Int32) (x3 : Int32) (x4 : Int32) (x5 : Int32) : Option (Int64) :=
  o_nm (x1.toInt64 - 1) (fun (t4 : Int64) =>
  f_X8_lastRising_L10 N N x0 x3 x4 x5 t4 x2.toInt64)
set_option maxHeartbeats 4000000 in
set_option maxRecDepth 100000 in
theorem w_X8_lastRising_B0 {p : Program} {l : Launch} {e : Env} {s : State} {m : MethodId} {args : Array Value} {below : List Frame} {meth : Method} {c : Code} {N : Nat} {r : Int64} (C0 : g_cx cX8_lastRising (some .long) 13 RX8 wsX8_lastRising p s m args meth c) : ∀ (x0 : Int32) (x1 : Int32) (x2 : Int32) (x3 : Int32) (x4 : Int32) (x5 : Int32) (ls : Array Slot), f_X8_lastRising N x0 x1 x2 x3 x4 x5 = some r → lv_has ls 13 [(0, .int x0), (1, .int x1), (2, .int x2), (3, .int x3), (4, .int x4), (5, .int x5)] → W p l e rm_X8_lastRising s m args below meth c s.heap [] 0 0 (MQ below (g_SL r) args s 0 0 (fun _ => False)) (F0 m 0 ls []) := by
  obtain ⟨hx, hb, hr, hml, hown, hts, hlocks⟩ := id C0
  intro x0 x1 x2 x3 x4 x5 ls hf hl
  unfold f_X8_lastRising at hf
  refine lv_iload_n hx hb dX8_lastRising_0 rfl (lv_at hl 1 rfl) ?_
  refine lv_i2l hx hb dX8_lastRising_1 rfl ?_
  refine lv_lconst (v := 1) hx hb dX8_lastRising_2 (by decide) ?_
  refine lv_lsub hx hb dX8_lastRising_3 ?_
  refine lv_topl (fun t4 et4 => ?_)
  replace hf := o_nm_go et4 hf
  refine lv_lstore (lv' := [(6, .long t4), (0, .int x0), (1, .int x1), (2, .int x2), (3, .int x3), (4, .int x4), (5, .int x5)]) hx hb dX8_lastRising_4 hl (by decide) rfl (fun ls hl => ?_)
  refine lv_iload_n hx hb dX8_lastRising_6 rfl (lv_at hl 3 rfl) ?_
  refine lv_i2l hx hb dX8_lastRising_7 rfl ?_
  refine lv_lstore (lv' := [(8, .long x2.toInt64), (6, .long t4), (0, .int x0), (1, .int x1), (2, .int x2), (3, .int x3), (4, .int x4), (5, .int x5)]) hx hb dX8_lastRising_8 hl (by decide) rfl (fun ls hl => ?_)
  exact w_X8_lastRising_L10 C0 N x0 x3 x4 x5 t4 x2.toInt64 ls hf (lv_sub hl [2, 5, 6, 7, 1, 0] rfl)
set_option maxHeartbeats 4000000 in
set_option maxRecDepth 100000 in
theorem c_X8_lastRising (l : Launch) {N : Nat} {x0 : Int32} {x1 : Int32} {x2 : Int32} {x3 : Int32} {x4 : Int32} {x5 : Int32} {r : Int64} (hf : f_X8_lastRising N x0 x1 x2 x3 x4 x5 = some r) : Met l yX8_lastRising wsX8_lastRising rm_X8_lastRising (g_PS [.int x0, .int x1, .int x2, .int x3, .int x4, .int x5]) (g_SL r) 0 0 (fun _ => False) := by
  refine g_metS (cc := cX8_lastRising) (maxL := 13) (ret := (some .long)) (by decide) rfl ?_
  intro p e s m below meth c C0
  have hl := lv_entry ([.int x0, .int x1, .int x2, .int x3, .int x4, .int x5]) (n := 13) (Nat.le_of_ble_eq_true rfl)
  rw [lg_entry_eq]
  generalize (lg_sl ([.int x0, .int x1, .int x2, .int x3, .int x4, .int x5]) ++ List.replicate (13 - (lg_sl ([.int x0, .int x1, .int x2, .int x3, .int x4, .int x5])).length) Slot.unset).toArray = ls at hl ⊢
  have hl : lv_has ls 13 [(0, .int x0), (1, .int x1), (2, .int x2), (3, .int x3), (4, .int x4), (5, .int x5)] := hl
  exact w_X8_lastRising_B0 C0 x0 x1 x2 x3 x4 x5 ls hf (lv_sub hl [0, 1, 2, 3, 4, 5] rfl)
