/-! FloatBoxesModel.keepsAtMost(III)V -/
abbrev rm_X8_keepsAtMost : Room := { frames := 2, cells := 0, slots := 0, locals := 50 }
abbrev ww_X8_keepsAtMost (cI cM : ClassId) (a_this a_this_all a_this_past a_this_refused a_this_box a_this_row a_this_text a_this_numbers a_this_before : Nat) (v_states : Int32) (v_empty : Int32) (v_cut : Int32) (v_rowMany : Int32) (v_taken : Int32) (v_found : Int32) (v_textLong : Int32) (v_at : Int32) (v_stopped : Int32) (v_box : Nat → Int32) : va_W := [(a_this, .inr (6, [.ref a_this_all, .ref a_this_past, .int v_states, .ref a_this_refused, .ref a_this_box, .int v_empty, .int v_cut, .ref a_this_row, .int v_rowMany, .int v_taken, .int v_found, .ref a_this_text, .int v_textLong, .int v_at, .ref a_this_numbers, .int v_stopped, .ref a_this_before])), (a_this_box, .inl (cI, 12, .inl v_box))]
def f_X8_keepsAtMost_B35  (v_empty : Int32) (v_cut : Int32) (v_box : Nat → Int32) (x3 : Int32) (z1 : Int32) (z2 : Int64) : Option (Int32 × Int32 × (Nat → Int32)) :=
  o_b1 (f_X8_high v_box x3) (fun (r37 : Int32) =>
  o_b3 (f_X8_keeps v_empty v_cut v_box z1 z2 r37.toInt64) (fun (v_empty_41 : Int32) (v_cut_41 : Int32) (v_box_41 : Nat → Int32) =>
  some (v_empty_41, v_cut_41, v_box_41)))
set_option maxHeartbeats 4000000 in
set_option maxRecDepth 100000 in
theorem w_X8_keepsAtMost_B35 {p : Program} {l : Launch} {e : Env} {s : State} {m : MethodId} {args : Array Value} {below : List Frame} {meth : Method} {c : Code} {D : va_G} {cI cM : ClassId} {A : Nat → Prop} {a_this a_this_all a_this_past a_this_refused a_this_box a_this_row a_this_text a_this_numbers a_this_before : Nat} {v_states : Int32} {v_rowMany : Int32} {v_taken : Int32} {v_found : Int32} {v_textLong : Int32} {v_at : Int32} {v_stopped : Int32} {o_empty : Int32} {o_cut : Int32} {o_box : Nat → Int32} (C0 : g_cx cX8_keepsAtMost none 4 RX8 wsX8_keepsAtMost p s m args meth c) (hA : ∀ q, s.heap.size ≤ q → A q) (hK : va_K D vwCl (g_tys cI cM) s) : ∀ (v_empty : Int32) (v_cut : Int32) (v_box : Nat → Int32) (x3 : Int32) (z1 : Int32) (z2 : Int64) (H : Heap) (locs : List Loc) (ls : Array Slot), f_X8_keepsAtMost_B35 v_empty v_cut v_box x3 z1 z2 = some (o_empty, o_cut, o_box) → va_P D vwCl (ww_X8_keepsAtMost cI cM a_this a_this_all a_this_past a_this_refused a_this_box a_this_row a_this_text a_this_numbers a_this_before v_states v_empty v_cut v_rowMany v_taken v_found v_textLong v_at v_stopped v_box) H → va_D A (ww_X8_keepsAtMost cI cM a_this a_this_all a_this_past a_this_refused a_this_box a_this_row a_this_text a_this_numbers a_this_before v_states v_empty v_cut v_rowMany v_taken v_found v_textLong v_at v_stopped v_box) → va_S A s.heap H locs → lv_has ls 4 [(0, .ref a_this), (3, .int x3)] → W p l e rm_X8_keepsAtMost s m args below meth c H locs 0 0 (MQ below (g_QV D (g_tys cI cM) A (ww_X8_keepsAtMost cI cM a_this a_this_all a_this_past a_this_refused a_this_box a_this_row a_this_text a_this_numbers a_this_before v_states o_empty o_cut v_rowMany v_taken v_found v_textLong v_at v_stopped o_box)) args s 0 0 A) (F0 m 35 ls [.long z2, .int z1, .ref a_this]) := by
  obtain ⟨hx, hb, hr, hml, hown, hts, hlocks⟩ := id C0
  intro v_empty v_cut v_box x3 z1 z2 H locs ls hf hP hD hS hl
  unfold f_X8_keepsAtMost_B35 at hf
  refine lv_aload_n hx hb dX8_keepsAtMost_35 rfl (lv_at hl 0 rfl) ?_
  refine lv_iload_n hx hb dX8_keepsAtMost_36 rfl (lv_at hl 1 rfl) ?_
  obtain ⟨r37, hg37, hf⟩ := o_b1_go hf
  refine g_callVi (wn := (ww_X8_keepsAtMost cI cM a_this a_this_all a_this_past a_this_refused a_this_box a_this_row a_this_text a_this_numbers a_this_before v_states v_empty v_cut v_rowMany v_taken v_found v_textLong v_at v_stopped v_box)) (rest := [.long z2, .int z1, .ref a_this]) ⟨hx, hb, hml, hown, hts⟩ (c_X8_high l D cI cM a_this a_this_all a_this_past a_this_refused a_this_box a_this_row a_this_text a_this_numbers a_this_before H.size v_states v_empty v_cut v_rowMany v_taken v_found v_textLong v_at v_stopped v_box hg37) (cwV 1 hts gX8_keepsAtMost_X8_high rfl rfl rfl (by decide +kernel) ⟨Nat.le_of_ble_eq_true rfl, Nat.le_of_ble_eq_true rfl⟩) hK hP hD hS hA [0, 1] [] [0, 1] rfl rfl rfl rfl rfl rfl (by decide) rfl rfl rfl hl.1 rfl (Nat.le_of_ble_eq_true rfl) dX8_keepsAtMost_37 (fun H locs hP hD hS => ?_)
  refine lv_i2l hx hb dX8_keepsAtMost_40 rfl ?_
  obtain ⟨v_empty_41, v_cut_41, v_box_41, hg41, hf⟩ := o_b3_go hf
  refine g_callVv (wn := (ww_X8_keepsAtMost cI cM a_this a_this_all a_this_past a_this_refused a_this_box a_this_row a_this_text a_this_numbers a_this_before v_states v_empty_41 v_cut_41 v_rowMany v_taken v_found v_textLong v_at v_stopped v_box_41)) (rest := []) ⟨hx, hb, hml, hown, hts⟩ (c_X8_keeps l D cI cM a_this a_this_all a_this_past a_this_refused a_this_box a_this_row a_this_text a_this_numbers a_this_before H.size v_states v_empty v_cut v_rowMany v_taken v_found v_textLong v_at v_stopped v_box hg41) (cwV 3 hts gX8_keepsAtMost_X8_keeps rfl rfl rfl (by decide +kernel) ⟨Nat.le_of_ble_eq_true rfl, Nat.le_of_ble_eq_true rfl⟩) hK hP hD hS hA [0, 1] [] [0, 1] rfl rfl rfl rfl rfl rfl (by decide) rfl rfl rfl hl.1 rfl (Nat.le_of_ble_eq_true rfl) dX8_keepsAtMost_41 (fun H locs hP hD hS => ?_)
  obtain ⟨q0, y0⟩ := o_rp hf
  obtain ⟨q1, y1⟩ := o_rp y0
  have q2 := Option.some.inj y1
  subst q0 q1 q2
  exact g_vret hx hb hr hlocks hP hD hK hS dX8_keepsAtMost_44
def f_X8_keepsAtMost  (v_empty : Int32) (v_cut : Int32) (v_box : Nat → Int32) (x1 : Int32) (x2 : Int32) (x3 : Int32) : Option (Int32 × Int32 × (Nat → Int32)) :=
  if v_empty = 0 then
    o_b1 (f_X8_high v_box x2) (fun (r12 : Int32) =>
    o_b1 (f_X8_low v_box x3) (fun (r17 : Int32) =>
    if r17 ≤ r12 then
      f_X8_keepsAtMost_B35 v_empty v_cut v_box x3 x1 ((-2139095040))
    else
      o_b1 (f_X8_low v_box x3) (fun (r25 : Int32) =>
      f_X8_keepsAtMost_B35 v_empty v_cut v_box x3 x1 r25.toInt64)))
  else
    some (v_empty, v_cut, v_box)
set_option maxHeartbeats 4000000 in
set_option maxRecDepth 100000 in
theorem w_X8_keepsAtMost_B0 {p : Program} {l : Launch} {e : Env} {s : State} {m : MethodId} {args : Array Value} {below : List Frame} {meth : Method} {c : Code} {D : va_G} {cI cM : ClassId} {A : Nat → Prop} {a_this a_this_all a_this_past a_this_refused a_this_box a_this_row a_this_text a_this_numbers a_this_before : Nat} {v_states : Int32} {v_rowMany : Int32} {v_taken : Int32} {v_found : Int32} {v_textLong : Int32} {v_at : Int32} {v_stopped : Int32} {o_empty : Int32} {o_cut : Int32} {o_box : Nat → Int32} (C0 : g_cx cX8_keepsAtMost none 4 RX8 wsX8_keepsAtMost p s m args meth c) (hA : ∀ q, s.heap.size ≤ q → A q) (hK : va_K D vwCl (g_tys cI cM) s) : ∀ (v_empty : Int32) (v_cut : Int32) (v_box : Nat → Int32) (x1 : Int32) (x2 : Int32) (x3 : Int32) (H : Heap) (locs : List Loc) (ls : Array Slot), f_X8_keepsAtMost v_empty v_cut v_box x1 x2 x3 = some (o_empty, o_cut, o_box) → va_P D vwCl (ww_X8_keepsAtMost cI cM a_this a_this_all a_this_past a_this_refused a_this_box a_this_row a_this_text a_this_numbers a_this_before v_states v_empty v_cut v_rowMany v_taken v_found v_textLong v_at v_stopped v_box) H → va_D A (ww_X8_keepsAtMost cI cM a_this a_this_all a_this_past a_this_refused a_this_box a_this_row a_this_text a_this_numbers a_this_before v_states v_empty v_cut v_rowMany v_taken v_found v_textLong v_at v_stopped v_box) → va_S A s.heap H locs → lv_has ls 4 [(0, .ref a_this), (1, .int x1), (2, .int x2), (3, .int x3)] → W p l e rm_X8_keepsAtMost s m args below meth c H locs 0 0 (MQ below (g_QV D (g_tys cI cM) A (ww_X8_keepsAtMost cI cM a_this a_this_all a_this_past a_this_refused a_this_box a_this_row a_this_text a_this_numbers a_this_before v_states o_empty o_cut v_rowMany v_taken v_found v_textLong v_at v_stopped o_box)) args s 0 0 A) (F0 m 0 ls []) := by
  obtain ⟨hx, hb, hr, hml, hown, hts, hlocks⟩ := id C0
  intro v_empty v_cut v_box x1 x2 x3 H locs ls hf hP hD hS hl
  unfold f_X8_keepsAtMost at hf
  refine lv_aload_n hx hb dX8_keepsAtMost_0 rfl (lv_at hl 0 rfl) ?_
  refine va_get (D := D) (ci := 6) (v := .int v_empty) (C := RX8) (T := TX8) (N := 17) hx hb hts (fun _ h => (List.mem_cons_of_mem _ (List.mem_append_right _ h))) hown hK hP 0 rfl rfl 5 (by decide) (hts (.fieldLink RX8 124 "FloatBoxesModel" "empty" "Z") (List.mem_cons_of_mem _ (List.mem_append_left _ (List.mem_of_getElem? (i := 0) rfl)))) (fun _ h9 => h9) rfl dX8_keepsAtMost_1 ?_
  refine lv_if_eq (tgt := 8) hx hb dX8_keepsAtMost_4 (by decide) (fun c4 => ?_) (fun c4 => ?_)
  · replace hf := o_t c4 hf
    refine lv_aload_n hx hb dX8_keepsAtMost_8 rfl (lv_at hl 0 rfl) ?_
    refine lv_iload_n hx hb dX8_keepsAtMost_9 rfl (lv_at hl 1 rfl) ?_
    refine lv_aload_n hx hb dX8_keepsAtMost_10 rfl (lv_at hl 0 rfl) ?_
    refine lv_iload_n hx hb dX8_keepsAtMost_11 rfl (lv_at hl 2 rfl) ?_
    obtain ⟨r12, hg12, hf⟩ := o_b1_go hf
    refine g_callVi (wn := (ww_X8_keepsAtMost cI cM a_this a_this_all a_this_past a_this_refused a_this_box a_this_row a_this_text a_this_numbers a_this_before v_states v_empty v_cut v_rowMany v_taken v_found v_textLong v_at v_stopped v_box)) (rest := [.int x1, .ref a_this]) ⟨hx, hb, hml, hown, hts⟩ (c_X8_high l D cI cM a_this a_this_all a_this_past a_this_refused a_this_box a_this_row a_this_text a_this_numbers a_this_before H.size v_states v_empty v_cut v_rowMany v_taken v_found v_textLong v_at v_stopped v_box hg12) (cwV 1 hts gX8_keepsAtMost_X8_high rfl rfl rfl (by decide +kernel) ⟨Nat.le_of_ble_eq_true rfl, Nat.le_of_ble_eq_true rfl⟩) hK hP hD hS hA [0, 1] [] [0, 1] rfl rfl rfl rfl rfl rfl (by decide) rfl rfl rfl hl.1 rfl (Nat.le_of_ble_eq_true rfl) dX8_keepsAtMost_12 (fun H locs hP hD hS => ?_)
    refine lv_aload_n hx hb dX8_keepsAtMost_15 rfl (lv_at hl 0 rfl) ?_
    refine lv_iload_n hx hb dX8_keepsAtMost_16 rfl (lv_at hl 3 rfl) ?_
    obtain ⟨r17, hg17, hf⟩ := o_b1_go hf
    refine g_callVi (wn := (ww_X8_keepsAtMost cI cM a_this a_this_all a_this_past a_this_refused a_this_box a_this_row a_this_text a_this_numbers a_this_before v_states v_empty v_cut v_rowMany v_taken v_found v_textLong v_at v_stopped v_box)) (rest := [.int r12, .int x1, .ref a_this]) ⟨hx, hb, hml, hown, hts⟩ (c_X8_low l D cI cM a_this a_this_all a_this_past a_this_refused a_this_box a_this_row a_this_text a_this_numbers a_this_before H.size v_states v_empty v_cut v_rowMany v_taken v_found v_textLong v_at v_stopped v_box hg17) (cwV 1 hts gX8_keepsAtMost_X8_low rfl rfl rfl (by decide +kernel) ⟨Nat.le_of_ble_eq_true rfl, Nat.le_of_ble_eq_true rfl⟩) hK hP hD hS hA [0, 1] [] [0, 1] rfl rfl rfl rfl rfl rfl (by decide) rfl rfl rfl hl.1 rfl (Nat.le_of_ble_eq_true rfl) dX8_keepsAtMost_17 (fun H locs hP hD hS => ?_)
    refine lv_icmp_ge (tgt := 32) hx hb dX8_keepsAtMost_20 (by decide) (fun c20 => ?_) (fun c20 => ?_)
    · replace hf := o_t c20 hf
      refine lv_ldc2 (v := (-2139095040)) hx hb hown (hts (.constantLong RX8 34 (-2139095040)) (List.mem_cons_of_mem _ (List.mem_append_left _ (List.mem_of_getElem? (i := 1) rfl)))) dX8_keepsAtMost_32 ?_
      exact w_X8_keepsAtMost_B35 C0 hA hK v_empty v_cut v_box x3 x1 ((-2139095040)) H locs ls hf hP hD hS (lv_sub hl [0, 3] rfl)
    · replace hf := o_f c20 hf
      refine lv_aload_n hx hb dX8_keepsAtMost_23 rfl (lv_at hl 0 rfl) ?_
      refine lv_iload_n hx hb dX8_keepsAtMost_24 rfl (lv_at hl 3 rfl) ?_
      obtain ⟨r25, hg25, hf⟩ := o_b1_go hf
      refine g_callVi (wn := (ww_X8_keepsAtMost cI cM a_this a_this_all a_this_past a_this_refused a_this_box a_this_row a_this_text a_this_numbers a_this_before v_states v_empty v_cut v_rowMany v_taken v_found v_textLong v_at v_stopped v_box)) (rest := [.int x1, .ref a_this]) ⟨hx, hb, hml, hown, hts⟩ (c_X8_low l D cI cM a_this a_this_all a_this_past a_this_refused a_this_box a_this_row a_this_text a_this_numbers a_this_before H.size v_states v_empty v_cut v_rowMany v_taken v_found v_textLong v_at v_stopped v_box hg25) (cwV 1 hts gX8_keepsAtMost_X8_low rfl rfl rfl (by decide +kernel) ⟨Nat.le_of_ble_eq_true rfl, Nat.le_of_ble_eq_true rfl⟩) hK hP hD hS hA [0, 1] [] [0, 1] rfl rfl rfl rfl rfl rfl (by decide) rfl rfl rfl hl.1 rfl (Nat.le_of_ble_eq_true rfl) dX8_keepsAtMost_25 (fun H locs hP hD hS => ?_)
      refine lv_i2l hx hb dX8_keepsAtMost_28 rfl ?_
      refine lv_goto (tgt := 35) hx hb dX8_keepsAtMost_29 (by decide) ?_
      exact w_X8_keepsAtMost_B35 C0 hA hK v_empty v_cut v_box x3 x1 r25.toInt64 H locs ls hf hP hD hS (lv_sub hl [0, 3] rfl)
  · replace hf := o_f c4 hf
    obtain ⟨q0, y0⟩ := o_rp hf
    obtain ⟨q1, y1⟩ := o_rp y0
    have q2 := Option.some.inj y1
    subst q0 q1 q2
    exact g_vret hx hb hr hlocks hP hD hK hS dX8_keepsAtMost_7
set_option maxHeartbeats 4000000 in
set_option maxRecDepth 100000 in
theorem c_X8_keepsAtMost (l : Launch) (D : va_G) (cI cM : ClassId) (a_this a_this_all a_this_past a_this_refused a_this_box a_this_row a_this_text a_this_numbers a_this_before : Nat) (sz : Nat) (v_states : Int32) (v_empty : Int32) (v_cut : Int32) (v_rowMany : Int32) (v_taken : Int32) (v_found : Int32) (v_textLong : Int32) (v_at : Int32) (v_stopped : Int32) (v_box : Nat → Int32) {x1 : Int32} {x2 : Int32} {x3 : Int32} {o_empty : Int32} {o_cut : Int32} {o_box : Nat → Int32} (hf : f_X8_keepsAtMost v_empty v_cut v_box x1 x2 x3 = some (o_empty, o_cut, o_box)) : Met l yX8_keepsAtMost wsX8_keepsAtMost rm_X8_keepsAtMost (g_Pc D (g_tys cI cM) (ww_X8_keepsAtMost cI cM a_this a_this_all a_this_past a_this_refused a_this_box a_this_row a_this_text a_this_numbers a_this_before v_states v_empty v_cut v_rowMany v_taken v_found v_textLong v_at v_stopped v_box) sz [.ref a_this, .int x1, .int x2, .int x3]) (g_QV D (g_tys cI cM) (va_A (ww_X8_keepsAtMost cI cM a_this a_this_all a_this_past a_this_refused a_this_box a_this_row a_this_text a_this_numbers a_this_before v_states v_empty v_cut v_rowMany v_taken v_found v_textLong v_at v_stopped v_box) sz) (ww_X8_keepsAtMost cI cM a_this a_this_all a_this_past a_this_refused a_this_box a_this_row a_this_text a_this_numbers a_this_before v_states o_empty o_cut v_rowMany v_taken v_found v_textLong v_at v_stopped o_box)) 0 0 (va_A (ww_X8_keepsAtMost cI cM a_this a_this_all a_this_past a_this_refused a_this_box a_this_row a_this_text a_this_numbers a_this_before v_states v_empty v_cut v_rowMany v_taken v_found v_textLong v_at v_stopped v_box) sz) := by
  refine g_met (cc := cX8_keepsAtMost) (maxL := 4) (ret := none) (Qc := fun D A => g_QV D (g_tys cI cM) A (ww_X8_keepsAtMost cI cM a_this a_this_all a_this_past a_this_refused a_this_box a_this_row a_this_text a_this_numbers a_this_before v_states o_empty o_cut v_rowMany v_taken v_found v_textLong v_at v_stopped o_box)) (by decide) rfl ?_
  intro p e s m below meth c A C0 hA hK hP hD
  have hl := lv_entry ([.ref a_this, .int x1, .int x2, .int x3]) (n := 4) (Nat.le_of_ble_eq_true rfl)
  rw [lg_entry_eq]
  generalize (lg_sl ([.ref a_this, .int x1, .int x2, .int x3]) ++ List.replicate (4 - (lg_sl ([.ref a_this, .int x1, .int x2, .int x3])).length) Slot.unset).toArray = ls at hl ⊢
  have hl : lv_has ls 4 [(0, .ref a_this), (1, .int x1), (2, .int x2), (3, .int x3)] := hl
  exact w_X8_keepsAtMost_B0 C0 hA hK v_empty v_cut v_box x1 x2 x3 s.heap [] ls hf hP hD va_S.rf (lv_sub hl [0, 1, 2, 3] rfl)
/-! FloatBoxesModel.cutsMost(III)V -/
abbrev rm_X8_cutsMost : Room := { frames := 3, cells := 0, slots := 0, locals := 73 }
abbrev ww_X8_cutsMost (cI cM : ClassId) (a_this a_this_all a_this_past a_this_refused a_this_box a_this_row a_this_text a_this_numbers a_this_before : Nat) (v_states : Int32) (v_empty : Int32) (v_cut : Int32) (v_rowMany : Int32) (v_taken : Int32) (v_found : Int32) (v_textLong : Int32) (v_at : Int32) (v_stopped : Int32) (v_box : Nat → Int32) : va_W := [(a_this, .inr (6, [.ref a_this_all, .ref a_this_past, .int v_states, .ref a_this_refused, .ref a_this_box, .int v_empty, .int v_cut, .ref a_this_row, .int v_rowMany, .int v_taken, .int v_found, .ref a_this_text, .int v_textLong, .int v_at, .ref a_this_numbers, .int v_stopped, .ref a_this_before])), (a_this_box, .inl (cI, 12, .inl v_box))]
def f_X8_cutsMost_B54  (v_empty : Int32) (v_cut : Int32) (v_box : Nat → Int32) (x1 : Int32) (x2 : Int32) (x3 : Int32) (x4 : Int32) (z0 : Int32) : Option (Int32 × Int32 × (Nat → Int32)) :=
  o_b3 (f_X8_keeps v_empty v_cut v_box x3 x4.toInt64 z0.toInt64) (fun (v_empty_64 : Int32) (v_cut_64 : Int32) (v_box_64 : Nat → Int32) =>
  o_b3 (f_X8_keepsAtMost v_empty_64 v_cut_64 v_box_64 x1 x2 x3) (fun (v_empty_71 : Int32) (v_cut_71 : Int32) (v_box_71 : Nat → Int32) =>
  o_b3 (f_X8_keepsAtMost v_empty_71 v_cut_71 v_box_71 x2 x1 x3) (fun (v_empty_78 : Int32) (v_cut_78 : Int32) (v_box_78 : Nat → Int32) =>
  some (v_empty_78, v_cut_78, v_box_78))))
set_option maxHeartbeats 4000000 in
set_option maxRecDepth 100000 in
theorem w_X8_cutsMost_B54 {p : Program} {l : Launch} {e : Env} {s : State} {m : MethodId} {args : Array Value} {below : List Frame} {meth : Method} {c : Code} {D : va_G} {cI cM : ClassId} {A : Nat → Prop} {a_this a_this_all a_this_past a_this_refused a_this_box a_this_row a_this_text a_this_numbers a_this_before : Nat} {v_states : Int32} {v_rowMany : Int32} {v_taken : Int32} {v_found : Int32} {v_textLong : Int32} {v_at : Int32} {v_stopped : Int32} {o_empty : Int32} {o_cut : Int32} {o_box : Nat → Int32} (C0 : g_cx cX8_cutsMost none 6 RX8 wsX8_cutsMost p s m args meth c) (hA : ∀ q, s.heap.size ≤ q → A q) (hK : va_K D vwCl (g_tys cI cM) s) : ∀ (v_empty : Int32) (v_cut : Int32) (v_box : Nat → Int32) (x1 : Int32) (x2 : Int32) (x3 : Int32) (x4 : Int32) (z0 : Int32) (H : Heap) (locs : List Loc) (ls : Array Slot), f_X8_cutsMost_B54 v_empty v_cut v_box x1 x2 x3 x4 z0 = some (o_empty, o_cut, o_box) → va_P D vwCl (ww_X8_cutsMost cI cM a_this a_this_all a_this_past a_this_refused a_this_box a_this_row a_this_text a_this_numbers a_this_before v_states v_empty v_cut v_rowMany v_taken v_found v_textLong v_at v_stopped v_box) H → va_D A (ww_X8_cutsMost cI cM a_this a_this_all a_this_past a_this_refused a_this_box a_this_row a_this_text a_this_numbers a_this_before v_states v_empty v_cut v_rowMany v_taken v_found v_textLong v_at v_stopped v_box) → va_S A s.heap H locs → lv_has ls 6 [(0, .ref a_this), (1, .int x1), (2, .int x2), (3, .int x3), (4, .int x4)] → W p l e rm_X8_cutsMost s m args below meth c H locs 0 0 (MQ below (g_QV D (g_tys cI cM) A (ww_X8_cutsMost cI cM a_this a_this_all a_this_past a_this_refused a_this_box a_this_row a_this_text a_this_numbers a_this_before v_states o_empty o_cut v_rowMany v_taken v_found v_textLong v_at v_stopped o_box)) args s 0 0 A) (F0 m 54 ls [.int z0]) := by
  obtain ⟨hx, hb, hr, hml, hown, hts, hlocks⟩ := id C0
  intro v_empty v_cut v_box x1 x2 x3 x4 z0 H locs ls hf hP hD hS hl
  unfold f_X8_cutsMost_B54 at hf
  refine lv_istore (lv' := [(5, .int z0), (0, .ref a_this), (1, .int x1), (2, .int x2), (3, .int x3), (4, .int x4)]) hx hb dX8_cutsMost_54 hl (by decide) rfl (fun ls hl => ?_)
  refine lv_aload_n hx hb dX8_cutsMost_56 rfl (lv_at hl 1 rfl) ?_
  refine lv_iload_n hx hb dX8_cutsMost_57 rfl (lv_at hl 4 rfl) ?_
  refine lv_iload hx hb dX8_cutsMost_58 (lv_at hl 5 rfl) ?_
  refine lv_i2l hx hb dX8_cutsMost_60 rfl ?_
  refine lv_iload hx hb dX8_cutsMost_61 (lv_at hl 0 rfl) ?_
  refine lv_i2l hx hb dX8_cutsMost_63 rfl ?_
  obtain ⟨v_empty_64, v_cut_64, v_box_64, hg64, hf⟩ := o_b3_go hf
  refine g_callVv (wn := (ww_X8_cutsMost cI cM a_this a_this_all a_this_past a_this_refused a_this_box a_this_row a_this_text a_this_numbers a_this_before v_states v_empty_64 v_cut_64 v_rowMany v_taken v_found v_textLong v_at v_stopped v_box_64)) (rest := []) ⟨hx, hb, hml, hown, hts⟩ (c_X8_keeps l D cI cM a_this a_this_all a_this_past a_this_refused a_this_box a_this_row a_this_text a_this_numbers a_this_before H.size v_states v_empty v_cut v_rowMany v_taken v_found v_textLong v_at v_stopped v_box hg64) (cwV 3 hts gX8_cutsMost_X8_keeps rfl rfl rfl (by decide +kernel) ⟨Nat.le_of_ble_eq_true rfl, Nat.le_of_ble_eq_true rfl⟩) hK hP hD hS hA [0, 1] [] [0, 1] rfl rfl rfl rfl rfl rfl (by decide) rfl rfl rfl hl.1 rfl (Nat.le_of_ble_eq_true rfl) dX8_cutsMost_64 (fun H locs hP hD hS => ?_)
  refine lv_aload_n hx hb dX8_cutsMost_67 rfl (lv_at hl 1 rfl) ?_
  refine lv_iload_n hx hb dX8_cutsMost_68 rfl (lv_at hl 2 rfl) ?_
  refine lv_iload_n hx hb dX8_cutsMost_69 rfl (lv_at hl 3 rfl) ?_
  refine lv_iload_n hx hb dX8_cutsMost_70 rfl (lv_at hl 4 rfl) ?_
  obtain ⟨v_empty_71, v_cut_71, v_box_71, hg71, hf⟩ := o_b3_go hf
  refine g_callVv (wn := (ww_X8_cutsMost cI cM a_this a_this_all a_this_past a_this_refused a_this_box a_this_row a_this_text a_this_numbers a_this_before v_states v_empty_71 v_cut_71 v_rowMany v_taken v_found v_textLong v_at v_stopped v_box_71)) (rest := []) ⟨hx, hb, hml, hown, hts⟩ (c_X8_keepsAtMost l D cI cM a_this a_this_all a_this_past a_this_refused a_this_box a_this_row a_this_text a_this_numbers a_this_before H.size v_states v_empty_64 v_cut_64 v_rowMany v_taken v_found v_textLong v_at v_stopped v_box_64 hg71) (cwV 3 hts gX8_cutsMost_X8_keepsAtMost rfl rfl rfl (by decide +kernel) ⟨Nat.le_of_ble_eq_true rfl, Nat.le_of_ble_eq_true rfl⟩) hK hP hD hS hA [0, 1] [] [0, 1] rfl rfl rfl rfl rfl rfl (by decide) rfl rfl rfl hl.1 rfl (Nat.le_of_ble_eq_true rfl) dX8_cutsMost_71 (fun H locs hP hD hS => ?_)
  refine lv_aload_n hx hb dX8_cutsMost_74 rfl (lv_at hl 1 rfl) ?_
  refine lv_iload_n hx hb dX8_cutsMost_75 rfl (lv_at hl 3 rfl) ?_
  refine lv_iload_n hx hb dX8_cutsMost_76 rfl (lv_at hl 2 rfl) ?_
  refine lv_iload_n hx hb dX8_cutsMost_77 rfl (lv_at hl 4 rfl) ?_
  obtain ⟨v_empty_78, v_cut_78, v_box_78, hg78, hf⟩ := o_b3_go hf
  refine g_callVv (wn := (ww_X8_cutsMost cI cM a_this a_this_all a_this_past a_this_refused a_this_box a_this_row a_this_text a_this_numbers a_this_before v_states v_empty_78 v_cut_78 v_rowMany v_taken v_found v_textLong v_at v_stopped v_box_78)) (rest := []) ⟨hx, hb, hml, hown, hts⟩ (c_X8_keepsAtMost l D cI cM a_this a_this_all a_this_past a_this_refused a_this_box a_this_row a_this_text a_this_numbers a_this_before H.size v_states v_empty_71 v_cut_71 v_rowMany v_taken v_found v_textLong v_at v_stopped v_box_71 hg78) (cwV 3 hts gX8_cutsMost_X8_keepsAtMost rfl rfl rfl (by decide +kernel) ⟨Nat.le_of_ble_eq_true rfl, Nat.le_of_ble_eq_true rfl⟩) hK hP hD hS hA [0, 1] [] [0, 1] rfl rfl rfl rfl rfl rfl (by decide) rfl rfl rfl hl.1 rfl (Nat.le_of_ble_eq_true rfl) dX8_cutsMost_78 (fun H locs hP hD hS => ?_)
  obtain ⟨q0, y0⟩ := o_rp hf
  obtain ⟨q1, y1⟩ := o_rp y0
  have q2 := Option.some.inj y1
  subst q0 q1 q2
  exact g_vret hx hb hr hlocks hP hD hK hS dX8_cutsMost_81
def f_X8_cutsMost_B26  (v_empty : Int32) (v_cut : Int32) (v_box : Nat → Int32) (x1 : Int32) (x2 : Int32) (x3 : Int32) (z0 : Int32) : Option (Int32 × Int32 × (Nat → Int32)) :=
  o_b1 (f_X8_high v_box x1) (fun (r30 : Int32) =>
  o_b1 (f_X8_high v_box x2) (fun (r35 : Int32) =>
  if r30 ≤ r35 then
    o_b1 (f_X8_high v_box x2) (fun (r51 : Int32) =>
    f_X8_cutsMost_B54 v_empty v_cut v_box x1 x2 x3 z0 r51)
  else
    o_b1 (f_X8_high v_box x1) (fun (r43 : Int32) =>
    f_X8_cutsMost_B54 v_empty v_cut v_box x1 x2 x3 z0 r43)))
set_option maxHeartbeats 4000000 in
set_option maxRecDepth 100000 in
theorem w_X8_cutsMost_B26 {p : Program} {l : Launch} {e : Env} {s : State} {m : MethodId} {args : Array Value} {below : List Frame} {meth : Method} {c : Code} {D : va_G} {cI cM : ClassId} {A : Nat → Prop} {a_this a_this_all a_this_past a_this_refused a_this_box a_this_row a_this_text a_this_numbers a_this_before : Nat} {v_states : Int32} {v_rowMany : Int32} {v_taken : Int32} {v_found : Int32} {v_textLong : Int32} {v_at : Int32} {v_stopped : Int32} {o_empty : Int32} {o_cut : Int32} {o_box : Nat → Int32} (C0 : g_cx cX8_cutsMost none 6 RX8 wsX8_cutsMost p s m args meth c) (hA : ∀ q, s.heap.size ≤ q → A q) (hK : va_K D vwCl (g_tys cI cM) s) : ∀ (v_empty : Int32) (v_cut : Int32) (v_box : Nat → Int32) (x1 : Int32) (x2 : Int32) (x3 : Int32) (z0 : Int32) (H : Heap) (locs : List Loc) (ls : Array Slot), f_X8_cutsMost_B26 v_empty v_cut v_box x1 x2 x3 z0 = some (o_empty, o_cut, o_box) → va_P D vwCl (ww_X8_cutsMost cI cM a_this a_this_all a_this_past a_this_refused a_this_box a_this_row a_this_text a_this_numbers a_this_before v_states v_empty v_cut v_rowMany v_taken v_found v_textLong v_at v_stopped v_box) H → va_D A (ww_X8_cutsMost cI cM a_this a_this_all a_this_past a_this_refused a_this_box a_this_row a_this_text a_this_numbers a_this_before v_states v_empty v_cut v_rowMany v_taken v_found v_textLong v_at v_stopped v_box) → va_S A s.heap H locs → lv_has ls 6 [(0, .ref a_this), (1, .int x1), (2, .int x2), (3, .int x3)] → W p l e rm_X8_cutsMost s m args below meth c H locs 0 0 (MQ below (g_QV D (g_tys cI cM) A (ww_X8_cutsMost cI cM a_this a_this_all a_this_past a_this_refused a_this_box a_this_row a_this_text a_this_numbers a_this_before v_states o_empty o_cut v_rowMany v_taken v_found v_textLong v_at v_stopped o_box)) args s 0 0 A) (F0 m 26 ls [.int z0]) := by
  obtain ⟨hx, hb, hr, hml, hown, hts, hlocks⟩ := id C0
  intro v_empty v_cut v_box x1 x2 x3 z0 H locs ls hf hP hD hS hl
  unfold f_X8_cutsMost_B26 at hf
  refine lv_istore (lv' := [(4, .int z0), (0, .ref a_this), (1, .int x1), (2, .int x2), (3, .int x3)]) hx hb dX8_cutsMost_26 hl (by decide) rfl (fun ls hl => ?_)
  refine lv_aload_n hx hb dX8_cutsMost_28 rfl (lv_at hl 1 rfl) ?_
  refine lv_iload_n hx hb dX8_cutsMost_29 rfl (lv_at hl 2 rfl) ?_
  obtain ⟨r30, hg30, hf⟩ := o_b1_go hf
  refine g_callVi (wn := (ww_X8_cutsMost cI cM a_this a_this_all a_this_past a_this_refused a_this_box a_this_row a_this_text a_this_numbers a_this_before v_states v_empty v_cut v_rowMany v_taken v_found v_textLong v_at v_stopped v_box)) (rest := []) ⟨hx, hb, hml, hown, hts⟩ (c_X8_high l D cI cM a_this a_this_all a_this_past a_this_refused a_this_box a_this_row a_this_text a_this_numbers a_this_before H.size v_states v_empty v_cut v_rowMany v_taken v_found v_textLong v_at v_stopped v_box hg30) (cwV 1 hts gX8_cutsMost_X8_high rfl rfl rfl (by decide +kernel) ⟨Nat.le_of_ble_eq_true rfl, Nat.le_of_ble_eq_true rfl⟩) hK hP hD hS hA [0, 1] [] [0, 1] rfl rfl rfl rfl rfl rfl (by decide) rfl rfl rfl hl.1 rfl (Nat.le_of_ble_eq_true rfl) dX8_cutsMost_30 (fun H locs hP hD hS => ?_)
  refine lv_aload_n hx hb dX8_cutsMost_33 rfl (lv_at hl 1 rfl) ?_
  refine lv_iload_n hx hb dX8_cutsMost_34 rfl (lv_at hl 3 rfl) ?_
  obtain ⟨r35, hg35, hf⟩ := o_b1_go hf
  refine g_callVi (wn := (ww_X8_cutsMost cI cM a_this a_this_all a_this_past a_this_refused a_this_box a_this_row a_this_text a_this_numbers a_this_before v_states v_empty v_cut v_rowMany v_taken v_found v_textLong v_at v_stopped v_box)) (rest := [.int r30]) ⟨hx, hb, hml, hown, hts⟩ (c_X8_high l D cI cM a_this a_this_all a_this_past a_this_refused a_this_box a_this_row a_this_text a_this_numbers a_this_before H.size v_states v_empty v_cut v_rowMany v_taken v_found v_textLong v_at v_stopped v_box hg35) (cwV 1 hts gX8_cutsMost_X8_high rfl rfl rfl (by decide +kernel) ⟨Nat.le_of_ble_eq_true rfl, Nat.le_of_ble_eq_true rfl⟩) hK hP hD hS hA [0, 1] [] [0, 1] rfl rfl rfl rfl rfl rfl (by decide) rfl rfl rfl hl.1 rfl (Nat.le_of_ble_eq_true rfl) dX8_cutsMost_35 (fun H locs hP hD hS => ?_)
  refine lv_icmp_le (tgt := 49) hx hb dX8_cutsMost_38 (by decide) (fun c38 => ?_) (fun c38 => ?_)
  · replace hf := o_t c38 hf
    refine lv_aload_n hx hb dX8_cutsMost_49 rfl (lv_at hl 1 rfl) ?_
    refine lv_iload_n hx hb dX8_cutsMost_50 rfl (lv_at hl 3 rfl) ?_
    obtain ⟨r51, hg51, hf⟩ := o_b1_go hf
    refine g_callVi (wn := (ww_X8_cutsMost cI cM a_this a_this_all a_this_past a_this_refused a_this_box a_this_row a_this_text a_this_numbers a_this_before v_states v_empty v_cut v_rowMany v_taken v_found v_textLong v_at v_stopped v_box)) (rest := []) ⟨hx, hb, hml, hown, hts⟩ (c_X8_high l D cI cM a_this a_this_all a_this_past a_this_refused a_this_box a_this_row a_this_text a_this_numbers a_this_before H.size v_states v_empty v_cut v_rowMany v_taken v_found v_textLong v_at v_stopped v_box hg51) (cwV 1 hts gX8_cutsMost_X8_high rfl rfl rfl (by decide +kernel) ⟨Nat.le_of_ble_eq_true rfl, Nat.le_of_ble_eq_true rfl⟩) hK hP hD hS hA [0, 1] [] [0, 1] rfl rfl rfl rfl rfl rfl (by decide) rfl rfl rfl hl.1 rfl (Nat.le_of_ble_eq_true rfl) dX8_cutsMost_51 (fun H locs hP hD hS => ?_)
    exact w_X8_cutsMost_B54 C0 hA hK v_empty v_cut v_box x1 x2 x3 z0 r51 H locs ls hf hP hD hS (lv_sub hl [1, 2, 3, 4, 0] rfl)
  · replace hf := o_f c38 hf
    refine lv_aload_n hx hb dX8_cutsMost_41 rfl (lv_at hl 1 rfl) ?_
    refine lv_iload_n hx hb dX8_cutsMost_42 rfl (lv_at hl 2 rfl) ?_
    obtain ⟨r43, hg43, hf⟩ := o_b1_go hf
    refine g_callVi (wn := (ww_X8_cutsMost cI cM a_this a_this_all a_this_past a_this_refused a_this_box a_this_row a_this_text a_this_numbers a_this_before v_states v_empty v_cut v_rowMany v_taken v_found v_textLong v_at v_stopped v_box)) (rest := []) ⟨hx, hb, hml, hown, hts⟩ (c_X8_high l D cI cM a_this a_this_all a_this_past a_this_refused a_this_box a_this_row a_this_text a_this_numbers a_this_before H.size v_states v_empty v_cut v_rowMany v_taken v_found v_textLong v_at v_stopped v_box hg43) (cwV 1 hts gX8_cutsMost_X8_high rfl rfl rfl (by decide +kernel) ⟨Nat.le_of_ble_eq_true rfl, Nat.le_of_ble_eq_true rfl⟩) hK hP hD hS hA [0, 1] [] [0, 1] rfl rfl rfl rfl rfl rfl (by decide) rfl rfl rfl hl.1 rfl (Nat.le_of_ble_eq_true rfl) dX8_cutsMost_43 (fun H locs hP hD hS => ?_)
    refine lv_goto (tgt := 54) hx hb dX8_cutsMost_46 (by decide) ?_
    exact w_X8_cutsMost_B54 C0 hA hK v_empty v_cut v_box x1 x2 x3 z0 r43 H locs ls hf hP hD hS (lv_sub hl [1, 2, 3, 4, 0] rfl)
def f_X8_cutsMost  (v_empty : Int32) (v_cut : Int32) (v_box : Nat → Int32) (x1 : Int32) (x2 : Int32) (x3 : Int32) : Option (Int32 × Int32 × (Nat → Int32)) :=
  o_b1 (f_X8_low v_box x1) (fun (r2 : Int32) =>
  o_b1 (f_X8_low v_box x2) (fun (r7 : Int32) =>
  if r2 ≤ r7 then
    o_b1 (f_X8_low v_box x2) (fun (r23 : Int32) =>
    f_X8_cutsMost_B26 v_empty v_cut v_box x1 x2 x3 r23)
  else
    o_b1 (f_X8_low v_box x1) (fun (r15 : Int32) =>
    f_X8_cutsMost_B26 v_empty v_cut v_box x1 x2 x3 r15)))
set_option maxHeartbeats 4000000 in
set_option maxRecDepth 100000 in
theorem w_X8_cutsMost_B0 {p : Program} {l : Launch} {e : Env} {s : State} {m : MethodId} {args : Array Value} {below : List Frame} {meth : Method} {c : Code} {D : va_G} {cI cM : ClassId} {A : Nat → Prop} {a_this a_this_all a_this_past a_this_refused a_this_box a_this_row a_this_text a_this_numbers a_this_before : Nat} {v_states : Int32} {v_rowMany : Int32} {v_taken : Int32} {v_found : Int32} {v_textLong : Int32} {v_at : Int32} {v_stopped : Int32} {o_empty : Int32} {o_cut : Int32} {o_box : Nat → Int32} (C0 : g_cx cX8_cutsMost none 6 RX8 wsX8_cutsMost p s m args meth c) (hA : ∀ q, s.heap.size ≤ q → A q) (hK : va_K D vwCl (g_tys cI cM) s) : ∀ (v_empty : Int32) (v_cut : Int32) (v_box : Nat → Int32) (x1 : Int32) (x2 : Int32) (x3 : Int32) (H : Heap) (locs : List Loc) (ls : Array Slot), f_X8_cutsMost v_empty v_cut v_box x1 x2 x3 = some (o_empty, o_cut, o_box) → va_P D vwCl (ww_X8_cutsMost cI cM a_this a_this_all a_this_past a_this_refused a_this_box a_this_row a_this_text a_this_numbers a_this_before v_states v_empty v_cut v_rowMany v_taken v_found v_textLong v_at v_stopped v_box) H → va_D A (ww_X8_cutsMost cI cM a_this a_this_all a_this_past a_this_refused a_this_box a_this_row a_this_text a_this_numbers a_this_before v_states v_empty v_cut v_rowMany v_taken v_found v_textLong v_at v_stopped v_box) → va_S A s.heap H locs → lv_has ls 6 [(0, .ref a_this), (1, .int x1), (2, .int x2), (3, .int x3)] → W p l e rm_X8_cutsMost s m args below meth c H locs 0 0 (MQ below (g_QV D (g_tys cI cM) A (ww_X8_cutsMost cI cM a_this a_this_all a_this_past a_this_refused a_this_box a_this_row a_this_text a_this_numbers a_this_before v_states o_empty o_cut v_rowMany v_taken v_found v_textLong v_at v_stopped o_box)) args s 0 0 A) (F0 m 0 ls []) := by
  obtain ⟨hx, hb, hr, hml, hown, hts, hlocks⟩ := id C0
  intro v_empty v_cut v_box x1 x2 x3 H locs ls hf hP hD hS hl
  unfold f_X8_cutsMost at hf
  refine lv_aload_n hx hb dX8_cutsMost_0 rfl (lv_at hl 0 rfl) ?_
  refine lv_iload_n hx hb dX8_cutsMost_1 rfl (lv_at hl 1 rfl) ?_
  obtain ⟨r2, hg2, hf⟩ := o_b1_go hf
  refine g_callVi (wn := (ww_X8_cutsMost cI cM a_this a_this_all a_this_past a_this_refused a_this_box a_this_row a_this_text a_this_numbers a_this_before v_states v_empty v_cut v_rowMany v_taken v_found v_textLong v_at v_stopped v_box)) (rest := []) ⟨hx, hb, hml, hown, hts⟩ (c_X8_low l D cI cM a_this a_this_all a_this_past a_this_refused a_this_box a_this_row a_this_text a_this_numbers a_this_before H.size v_states v_empty v_cut v_rowMany v_taken v_found v_textLong v_at v_stopped v_box hg2) (cwV 1 hts gX8_cutsMost_X8_low rfl rfl rfl (by decide +kernel) ⟨Nat.le_of_ble_eq_true rfl, Nat.le_of_ble_eq_true rfl⟩) hK hP hD hS hA [0, 1] [] [0, 1] rfl rfl rfl rfl rfl rfl (by decide) rfl rfl rfl hl.1 rfl (Nat.le_of_ble_eq_true rfl) dX8_cutsMost_2 (fun H locs hP hD hS => ?_)
  refine lv_aload_n hx hb dX8_cutsMost_5 rfl (lv_at hl 0 rfl) ?_
  refine lv_iload_n hx hb dX8_cutsMost_6 rfl (lv_at hl 2 rfl) ?_
  obtain ⟨r7, hg7, hf⟩ := o_b1_go hf
  refine g_callVi (wn := (ww_X8_cutsMost cI cM a_this a_this_all a_this_past a_this_refused a_this_box a_this_row a_this_text a_this_numbers a_this_before v_states v_empty v_cut v_rowMany v_taken v_found v_textLong v_at v_stopped v_box)) (rest := [.int r2]) ⟨hx, hb, hml, hown, hts⟩ (c_X8_low l D cI cM a_this a_this_all a_this_past a_this_refused a_this_box a_this_row a_this_text a_this_numbers a_this_before H.size v_states v_empty v_cut v_rowMany v_taken v_found v_textLong v_at v_stopped v_box hg7) (cwV 1 hts gX8_cutsMost_X8_low rfl rfl rfl (by decide +kernel) ⟨Nat.le_of_ble_eq_true rfl, Nat.le_of_ble_eq_true rfl⟩) hK hP hD hS hA [0, 1] [] [0, 1] rfl rfl rfl rfl rfl rfl (by decide) rfl rfl rfl hl.1 rfl (Nat.le_of_ble_eq_true rfl) dX8_cutsMost_7 (fun H locs hP hD hS => ?_)
  refine lv_icmp_le (tgt := 21) hx hb dX8_cutsMost_10 (by decide) (fun c10 => ?_) (fun c10 => ?_)
  · replace hf := o_t c10 hf
    refine lv_aload_n hx hb dX8_cutsMost_21 rfl (lv_at hl 0 rfl) ?_
    refine lv_iload_n hx hb dX8_cutsMost_22 rfl (lv_at hl 2 rfl) ?_
    obtain ⟨r23, hg23, hf⟩ := o_b1_go hf
    refine g_callVi (wn := (ww_X8_cutsMost cI cM a_this a_this_all a_this_past a_this_refused a_this_box a_this_row a_this_text a_this_numbers a_this_before v_states v_empty v_cut v_rowMany v_taken v_found v_textLong v_at v_stopped v_box)) (rest := []) ⟨hx, hb, hml, hown, hts⟩ (c_X8_low l D cI cM a_this a_this_all a_this_past a_this_refused a_this_box a_this_row a_this_text a_this_numbers a_this_before H.size v_states v_empty v_cut v_rowMany v_taken v_found v_textLong v_at v_stopped v_box hg23) (cwV 1 hts gX8_cutsMost_X8_low rfl rfl rfl (by decide +kernel) ⟨Nat.le_of_ble_eq_true rfl, Nat.le_of_ble_eq_true rfl⟩) hK hP hD hS hA [0, 1] [] [0, 1] rfl rfl rfl rfl rfl rfl (by decide) rfl rfl rfl hl.1 rfl (Nat.le_of_ble_eq_true rfl) dX8_cutsMost_23 (fun H locs hP hD hS => ?_)
    exact w_X8_cutsMost_B26 C0 hA hK v_empty v_cut v_box x1 x2 x3 r23 H locs ls hf hP hD hS (lv_sub hl [0, 1, 2, 3] rfl)
  · replace hf := o_f c10 hf
    refine lv_aload_n hx hb dX8_cutsMost_13 rfl (lv_at hl 0 rfl) ?_
    refine lv_iload_n hx hb dX8_cutsMost_14 rfl (lv_at hl 1 rfl) ?_
    obtain ⟨r15, hg15, hf⟩ := o_b1_go hf
    refine g_callVi (wn := (ww_X8_cutsMost cI cM a_this a_this_all a_this_past a_this_refused a_this_box a_this_row a_this_text a_this_numbers a_this_before v_states v_empty v_cut v_rowMany v_taken v_found v_textLong v_at v_stopped v_box)) (rest := []) ⟨hx, hb, hml, hown, hts⟩ (c_X8_low l D cI cM a_this a_this_all a_this_past a_this_refused a_this_box a_this_row a_this_text a_this_numbers a_this_before H.size v_states v_empty v_cut v_rowMany v_taken v_found v_textLong v_at v_stopped v_box hg15) (cwV 1 hts gX8_cutsMost_X8_low rfl rfl rfl (by decide +kernel) ⟨Nat.le_of_ble_eq_true rfl, Nat.le_of_ble_eq_true rfl⟩) hK hP hD hS hA [0, 1] [] [0, 1] rfl rfl rfl rfl rfl rfl (by decide) rfl rfl rfl hl.1 rfl (Nat.le_of_ble_eq_true rfl) dX8_cutsMost_15 (fun H locs hP hD hS => ?_)
    refine lv_goto (tgt := 26) hx hb dX8_cutsMost_18 (by decide) ?_
    exact w_X8_cutsMost_B26 C0 hA hK v_empty v_cut v_box x1 x2 x3 r15 H locs ls hf hP hD hS (lv_sub hl [0, 1, 2, 3] rfl)
set_option maxHeartbeats 4000000 in
set_option maxRecDepth 100000 in
theorem c_X8_cutsMost (l : Launch) (D : va_G) (cI cM : ClassId) (a_this a_this_all a_this_past a_this_refused a_this_box a_this_row a_this_text a_this_numbers a_this_before : Nat) (sz : Nat) (v_states : Int32) (v_empty : Int32) (v_cut : Int32) (v_rowMany : Int32) (v_taken : Int32) (v_found : Int32) (v_textLong : Int32) (v_at : Int32) (v_stopped : Int32) (v_box : Nat → Int32) {x1 : Int32} {x2 : Int32} {x3 : Int32} {o_empty : Int32} {o_cut : Int32} {o_box : Nat → Int32} (hf : f_X8_cutsMost v_empty v_cut v_box x1 x2 x3 = some (o_empty, o_cut, o_box)) : Met l yX8_cutsMost wsX8_cutsMost rm_X8_cutsMost (g_Pc D (g_tys cI cM) (ww_X8_cutsMost cI cM a_this a_this_all a_this_past a_this_refused a_this_box a_this_row a_this_text a_this_numbers a_this_before v_states v_empty v_cut v_rowMany v_taken v_found v_textLong v_at v_stopped v_box) sz [.ref a_this, .int x1, .int x2, .int x3]) (g_QV D (g_tys cI cM) (va_A (ww_X8_cutsMost cI cM a_this a_this_all a_this_past a_this_refused a_this_box a_this_row a_this_text a_this_numbers a_this_before v_states v_empty v_cut v_rowMany v_taken v_found v_textLong v_at v_stopped v_box) sz) (ww_X8_cutsMost cI cM a_this a_this_all a_this_past a_this_refused a_this_box a_this_row a_this_text a_this_numbers a_this_before v_states o_empty o_cut v_rowMany v_taken v_found v_textLong v_at v_stopped o_box)) 0 0 (va_A (ww_X8_cutsMost cI cM a_this a_this_all a_this_past a_this_refused a_this_box a_this_row a_this_text a_this_numbers a_this_before v_states v_empty v_cut v_rowMany v_taken v_found v_textLong v_at v_stopped v_box) sz) := by
  refine g_met (cc := cX8_cutsMost) (maxL := 6) (ret := none) (Qc := fun D A => g_QV D (g_tys cI cM) A (ww_X8_cutsMost cI cM a_this a_this_all a_this_past a_this_refused a_this_box a_this_row a_this_text a_this_numbers a_this_before v_states o_empty o_cut v_rowMany v_taken v_found v_textLong v_at v_stopped o_box)) (by decide) rfl ?_
  intro p e s m below meth c A C0 hA hK hP hD
  have hl := lv_entry ([.ref a_this, .int x1, .int x2, .int x3]) (n := 6) (Nat.le_of_ble_eq_true rfl)
  rw [lg_entry_eq]
  generalize (lg_sl ([.ref a_this, .int x1, .int x2, .int x3]) ++ List.replicate (6 - (lg_sl ([.ref a_this, .int x1, .int x2, .int x3])).length) Slot.unset).toArray = ls at hl ⊢
  have hl : lv_has ls 6 [(0, .ref a_this), (1, .int x1), (2, .int x2), (3, .int x3)] := hl
  exact w_X8_cutsMost_B0 C0 hA hK v_empty v_cut v_box x1 x2 x3 s.heap [] ls hf hP hD va_S.rf (lv_sub hl [0, 1, 2, 3] rfl)
/-! FloatBoxesModel.isZero(I)Z -/
abbrev rm_X8_isZero : Room := { frames := 0, cells := 0, slots := 0, locals := 0 }
def f_X8_isZero  (x0 : Int32) : Option (Int32) :=
  if x0 = ((-1)) then
    some 1
  else
    if x0 = 0 then
      some 1
    else
      some 0
set_option maxHeartbeats 4000000 in
set_option maxRecDepth 100000 in
theorem w_X8_isZero_B0 {p : Program} {l : Launch} {e : Env} {s : State} {m : MethodId} {args : Array Value} {below : List Frame} {meth : Method} {c : Code} {r : Int32} (C0 : g_cx cX8_isZero (some .boolean) 1 RX8 wsX8_isZero p s m args meth c) : ∀ (x0 : Int32) (ls : Array Slot), f_X8_isZero x0 = some r → lv_has ls 1 [(0, .int x0)] → W p l e rm_X8_isZero s m args below meth c s.heap [] 0 0 (MQ below (g_SI r) args s 0 0 (fun _ => False)) (F0 m 0 ls []) := by
  obtain ⟨hx, hb, hr, hml, hown, hts, hlocks⟩ := id C0
  intro x0 ls hf hl
  unfold f_X8_isZero at hf
  refine lv_iload_n hx hb dX8_isZero_0 rfl (lv_at hl 0 rfl) ?_
  refine lv_iconst (v := (-1)) hx hb dX8_isZero_1 (by decide) ?_
  refine lv_icmp_eq (tgt := 9) hx hb dX8_isZero_2 (by decide) (fun c2 => ?_) (fun c2 => ?_)
  · replace hf := o_t c2 hf
    refine lv_iconst (v := 1) hx hb dX8_isZero_9 (by decide) ?_
    refine lv_goto (tgt := 14) hx hb dX8_isZero_10 (by decide) ?_
    have q0 := Option.some.inj hf
    subst q0
    exact g_szret hx hb hr hlocks (by decide) dX8_isZero_14
  · replace hf := o_f c2 hf
    refine lv_iload_n hx hb dX8_isZero_5 rfl (lv_at hl 0 rfl) ?_
    refine lv_if_ne (tgt := 13) hx hb dX8_isZero_6 (by decide) (fun c6 => ?_) (fun c6 => ?_)
    · replace hf := o_f c6 hf
      refine lv_iconst (v := 0) hx hb dX8_isZero_13 (by decide) ?_
      have q0 := Option.some.inj hf
      subst q0
      exact g_szret hx hb hr hlocks (by decide) dX8_isZero_14
    · replace hf := o_t c6 hf
      refine lv_iconst (v := 1) hx hb dX8_isZero_9 (by decide) ?_
      refine lv_goto (tgt := 14) hx hb dX8_isZero_10 (by decide) ?_
      have q0 := Option.some.inj hf
      subst q0
      exact g_szret hx hb hr hlocks (by decide) dX8_isZero_14
set_option maxHeartbeats 4000000 in
set_option maxRecDepth 100000 in
theorem c_X8_isZero (l : Launch) {x0 : Int32} {r : Int32} (hf : f_X8_isZero x0 = some r) : Met l yX8_isZero wsX8_isZero rm_X8_isZero (g_PS [.int x0]) (g_SI r) 0 0 (fun _ => False) := by
  refine g_metS (cc := cX8_isZero) (maxL := 1) (ret := (some .boolean)) (by decide) rfl ?_
  intro p e s m below meth c C0
  have hl := lv_entry ([.int x0]) (n := 1) (Nat.le_of_ble_eq_true rfl)
  rw [lg_entry_eq]
  generalize (lg_sl ([.int x0]) ++ List.replicate (1 - (lg_sl ([.int x0])).length) Slot.unset).toArray = ls at hl ⊢
  have hl : lv_has ls 1 [(0, .int x0)] := hl
  exact w_X8_isZero_B0 C0 x0 ls hf (lv_sub hl [0] rfl)
/-! FloatBoxesModel.cutsLess(II)V -/
abbrev rm_X8_cutsLess : Room := { frames := 2, cells := 0, slots := 0, locals := 50 }
abbrev ww_X8_cutsLess (cI cM : ClassId) (a_this a_this_all a_this_past a_this_refused a_this_box a_this_row a_this_text a_this_numbers a_this_before : Nat) (v_states : Int32) (v_empty : Int32) (v_cut : Int32) (v_rowMany : Int32) (v_taken : Int32) (v_found : Int32) (v_textLong : Int32) (v_at : Int32) (v_stopped : Int32) (v_box : Nat → Int32) : va_W := [(a_this, .inr (6, [.ref a_this_all, .ref a_this_past, .int v_states, .ref a_this_refused, .ref a_this_box, .int v_empty, .int v_cut, .ref a_this_row, .int v_rowMany, .int v_taken, .int v_found, .ref a_this_text, .int v_textLong, .int v_at, .ref a_this_numbers, .int v_stopped, .ref a_this_before])), (a_this_box, .inl (cI, 12, .inl v_box))]
def f_X8_cutsLess_B64  (v_empty : Int32) (v_cut : Int32) (v_box : Nat → Int32) (z1 : Int32) (z2 : Int64) : Option (Int32 × Int32 × (Nat → Int32)) :=
  o_b3 (f_X8_keeps v_empty v_cut v_box z1 z2 2139095039) (fun (v_empty_67 : Int32) (v_cut_67 : Int32) (v_box_67 : Nat → Int32) =>
  some (v_empty_67, v_cut_67, v_box_67))
set_option maxHeartbeats 4000000 in
set_option maxRecDepth 100000 in
theorem w_X8_cutsLess_B64 {p : Program} {l : Launch} {e : Env} {s : State} {m : MethodId} {args : Array Value} {below : List Frame} {meth : Method} {c : Code} {D : va_G} {cI cM : ClassId} {A : Nat → Prop} {a_this a_this_all a_this_past a_this_refused a_this_box a_this_row a_this_text a_this_numbers a_this_before : Nat} {v_states : Int32} {v_rowMany : Int32} {v_taken : Int32} {v_found : Int32} {v_textLong : Int32} {v_at : Int32} {v_stopped : Int32} {o_empty : Int32} {o_cut : Int32} {o_box : Nat → Int32} (C0 : g_cx cX8_cutsLess none 5 RX8 wsX8_cutsLess p s m args meth c) (hA : ∀ q, s.heap.size ≤ q → A q) (hK : va_K D vwCl (g_tys cI cM) s) : ∀ (v_empty : Int32) (v_cut : Int32) (v_box : Nat → Int32) (z1 : Int32) (z2 : Int64) (H : Heap) (locs : List Loc) (ls : Array Slot), f_X8_cutsLess_B64 v_empty v_cut v_box z1 z2 = some (o_empty, o_cut, o_box) → va_P D vwCl (ww_X8_cutsLess cI cM a_this a_this_all a_this_past a_this_refused a_this_box a_this_row a_this_text a_this_numbers a_this_before v_states v_empty v_cut v_rowMany v_taken v_found v_textLong v_at v_stopped v_box) H → va_D A (ww_X8_cutsLess cI cM a_this a_this_all a_this_past a_this_refused a_this_box a_this_row a_this_text a_this_numbers a_this_before v_states v_empty v_cut v_rowMany v_taken v_found v_textLong v_at v_stopped v_box) → va_S A s.heap H locs → lv_has ls 5 [] → W p l e rm_X8_cutsLess s m args below meth c H locs 0 0 (MQ below (g_QV D (g_tys cI cM) A (ww_X8_cutsLess cI cM a_this a_this_all a_this_past a_this_refused a_this_box a_this_row a_this_text a_this_numbers a_this_before v_states o_empty o_cut v_rowMany v_taken v_found v_textLong v_at v_stopped o_box)) args s 0 0 A) (F0 m 64 ls [.long z2, .int z1, .ref a_this]) := by
  obtain ⟨hx, hb, hr, hml, hown, hts, hlocks⟩ := id C0
  intro v_empty v_cut v_box z1 z2 H locs ls hf hP hD hS hl
  unfold f_X8_cutsLess_B64 at hf
  refine lv_ldc2 (v := 2139095039) hx hb hown (hts (.constantLong RX8 36 (2139095039)) (List.mem_cons_of_mem _ (List.mem_append_left _ (List.mem_of_getElem? (i := 3) rfl)))) dX8_cutsLess_64 ?_
  obtain ⟨v_empty_67, v_cut_67, v_box_67, hg67, hf⟩ := o_b3_go hf
  refine g_callVv (wn := (ww_X8_cutsLess cI cM a_this a_this_all a_this_past a_this_refused a_this_box a_this_row a_this_text a_this_numbers a_this_before v_states v_empty_67 v_cut_67 v_rowMany v_taken v_found v_textLong v_at v_stopped v_box_67)) (rest := []) ⟨hx, hb, hml, hown, hts⟩ (c_X8_keeps l D cI cM a_this a_this_all a_this_past a_this_refused a_this_box a_this_row a_this_text a_this_numbers a_this_before H.size v_states v_empty v_cut v_rowMany v_taken v_found v_textLong v_at v_stopped v_box hg67) (cwV 3 hts gX8_cutsLess_X8_keeps rfl rfl rfl (by decide +kernel) ⟨Nat.le_of_ble_eq_true rfl, Nat.le_of_ble_eq_true rfl⟩) hK hP hD hS hA [0, 1] [] [0, 1] rfl rfl rfl rfl rfl rfl (by decide) rfl rfl rfl hl.1 rfl (Nat.le_of_ble_eq_true rfl) dX8_cutsLess_67 (fun H locs hP hD hS => ?_)
  obtain ⟨q0, y0⟩ := o_rp hf
  obtain ⟨q1, y1⟩ := o_rp y0
  have q2 := Option.some.inj y1
  subst q0 q1 q2
  exact g_vret hx hb hr hlocks hP hD hK hS dX8_cutsLess_70
def f_X8_cutsLess_B28  (v_empty : Int32) (v_cut : Int32) (v_box : Nat → Int32) (x1 : Int32) (x2 : Int32) (z1 : Int32) (z2 : Int64) (z3 : Int64) : Option (Int32 × Int32 × (Nat → Int32)) :=
  o_b3 (f_X8_keeps v_empty v_cut v_box z1 z2 z3) (fun (v_empty_28 : Int32) (v_cut_28 : Int32) (v_box_28 : Nat → Int32) =>
  if v_empty_28 = 0 then
    o_b1 (f_X8_low v_box_28 x1) (fun (r40 : Int32) =>
    o_b1 (f_X8_isZero r40) (fun (r49 : Int32) =>
    if r49 = 0 then
      f_X8_cutsLess_B64 v_empty_28 v_cut_28 v_box_28 x2 (r40.toInt64 + 1)
    else
      f_X8_cutsLess_B64 v_empty_28 v_cut_28 v_box_28 x2 1))
  else
    some (v_empty_28, v_cut_28, v_box_28))
set_option maxHeartbeats 4000000 in
set_option maxRecDepth 100000 in
theorem w_X8_cutsLess_B28 {p : Program} {l : Launch} {e : Env} {s : State} {m : MethodId} {args : Array Value} {below : List Frame} {meth : Method} {c : Code} {D : va_G} {cI cM : ClassId} {A : Nat → Prop} {a_this a_this_all a_this_past a_this_refused a_this_box a_this_row a_this_text a_this_numbers a_this_before : Nat} {v_states : Int32} {v_rowMany : Int32} {v_taken : Int32} {v_found : Int32} {v_textLong : Int32} {v_at : Int32} {v_stopped : Int32} {o_empty : Int32} {o_cut : Int32} {o_box : Nat → Int32} (C0 : g_cx cX8_cutsLess none 5 RX8 wsX8_cutsLess p s m args meth c) (hA : ∀ q, s.heap.size ≤ q → A q) (hK : va_K D vwCl (g_tys cI cM) s) : ∀ (v_empty : Int32) (v_cut : Int32) (v_box : Nat → Int32) (x1 : Int32) (x2 : Int32) (z1 : Int32) (z2 : Int64) (z3 : Int64) (H : Heap) (locs : List Loc) (ls : Array Slot), f_X8_cutsLess_B28 v_empty v_cut v_box x1 x2 z1 z2 z3 = some (o_empty, o_cut, o_box) → va_P D vwCl (ww_X8_cutsLess cI cM a_this a_this_all a_this_past a_this_refused a_this_box a_this_row a_this_text a_this_numbers a_this_before v_states v_empty v_cut v_rowMany v_taken v_found v_textLong v_at v_stopped v_box) H → va_D A (ww_X8_cutsLess cI cM a_this a_this_all a_this_past a_this_refused a_this_box a_this_row a_this_text a_this_numbers a_this_before v_states v_empty v_cut v_rowMany v_taken v_found v_textLong v_at v_stopped v_box) → va_S A s.heap H locs → lv_has ls 5 [(0, .ref a_this), (1, .int x1), (2, .int x2)] → W p l e rm_X8_cutsLess s m args below meth c H locs 0 0 (MQ below (g_QV D (g_tys cI cM) A (ww_X8_cutsLess cI cM a_this a_this_all a_this_past a_this_refused a_this_box a_this_row a_this_text a_this_numbers a_this_before v_states o_empty o_cut v_rowMany v_taken v_found v_textLong v_at v_stopped o_box)) args s 0 0 A) (F0 m 28 ls [.long z3, .long z2, .int z1, .ref a_this]) := by
  obtain ⟨hx, hb, hr, hml, hown, hts, hlocks⟩ := id C0
  intro v_empty v_cut v_box x1 x2 z1 z2 z3 H locs ls hf hP hD hS hl
  unfold f_X8_cutsLess_B28 at hf
  obtain ⟨v_empty_28, v_cut_28, v_box_28, hg28, hf⟩ := o_b3_go hf
  refine g_callVv (wn := (ww_X8_cutsLess cI cM a_this a_this_all a_this_past a_this_refused a_this_box a_this_row a_this_text a_this_numbers a_this_before v_states v_empty_28 v_cut_28 v_rowMany v_taken v_found v_textLong v_at v_stopped v_box_28)) (rest := []) ⟨hx, hb, hml, hown, hts⟩ (c_X8_keeps l D cI cM a_this a_this_all a_this_past a_this_refused a_this_box a_this_row a_this_text a_this_numbers a_this_before H.size v_states v_empty v_cut v_rowMany v_taken v_found v_textLong v_at v_stopped v_box hg28) (cwV 3 hts gX8_cutsLess_X8_keeps rfl rfl rfl (by decide +kernel) ⟨Nat.le_of_ble_eq_true rfl, Nat.le_of_ble_eq_true rfl⟩) hK hP hD hS hA [0, 1] [] [0, 1] rfl rfl rfl rfl rfl rfl (by decide) rfl rfl rfl hl.1 rfl (Nat.le_of_ble_eq_true rfl) dX8_cutsLess_28 (fun H locs hP hD hS => ?_)
  refine lv_aload_n hx hb dX8_cutsLess_31 rfl (lv_at hl 0 rfl) ?_
  refine va_get (D := D) (ci := 6) (v := .int v_empty_28) (C := RX8) (T := TX8) (N := 17) hx hb hts (fun _ h => (List.mem_cons_of_mem _ (List.mem_append_right _ h))) hown hK hP 0 rfl rfl 5 (by decide) (hts (.fieldLink RX8 124 "FloatBoxesModel" "empty" "Z") (List.mem_cons_of_mem _ (List.mem_append_left _ (List.mem_of_getElem? (i := 2) rfl)))) (fun _ h9 => h9) rfl dX8_cutsLess_32 ?_
  refine lv_if_ne (tgt := 70) hx hb dX8_cutsLess_35 (by decide) (fun c35 => ?_) (fun c35 => ?_)
  · replace hf := o_f c35 hf
    obtain ⟨q0, y0⟩ := o_rp hf
    obtain ⟨q1, y1⟩ := o_rp y0
    have q2 := Option.some.inj y1
    subst q0 q1 q2
    exact g_vret hx hb hr hlocks hP hD hK hS dX8_cutsLess_70
  · replace hf := o_t c35 hf
    refine lv_aload_n hx hb dX8_cutsLess_38 rfl (lv_at hl 0 rfl) ?_
    refine lv_iload_n hx hb dX8_cutsLess_39 rfl (lv_at hl 1 rfl) ?_
    obtain ⟨r40, hg40, hf⟩ := o_b1_go hf
    refine g_callVi (wn := (ww_X8_cutsLess cI cM a_this a_this_all a_this_past a_this_refused a_this_box a_this_row a_this_text a_this_numbers a_this_before v_states v_empty_28 v_cut_28 v_rowMany v_taken v_found v_textLong v_at v_stopped v_box_28)) (rest := []) ⟨hx, hb, hml, hown, hts⟩ (c_X8_low l D cI cM a_this a_this_all a_this_past a_this_refused a_this_box a_this_row a_this_text a_this_numbers a_this_before H.size v_states v_empty_28 v_cut_28 v_rowMany v_taken v_found v_textLong v_at v_stopped v_box_28 hg40) (cwV 1 hts gX8_cutsLess_X8_low rfl rfl rfl (by decide +kernel) ⟨Nat.le_of_ble_eq_true rfl, Nat.le_of_ble_eq_true rfl⟩) hK hP hD hS hA [0, 1] [] [0, 1] rfl rfl rfl rfl rfl rfl (by decide) rfl rfl rfl hl.1 rfl (Nat.le_of_ble_eq_true rfl) dX8_cutsLess_40 (fun H locs hP hD hS => ?_)
    refine lv_istore (lv' := [(4, .int r40), (0, .ref a_this), (1, .int x1), (2, .int x2)]) hx hb dX8_cutsLess_43 hl (by decide) rfl (fun ls hl => ?_)
    refine lv_aload_n hx hb dX8_cutsLess_45 rfl (lv_at hl 1 rfl) ?_
    refine lv_iload_n hx hb dX8_cutsLess_46 rfl (lv_at hl 3 rfl) ?_
    refine lv_iload hx hb dX8_cutsLess_47 (lv_at hl 0 rfl) ?_
    obtain ⟨r49, hg49, hf⟩ := o_b1_go hf
    refine g_callSi (rest := [.int x2, .ref a_this]) ⟨hx, hb, hml, hown, hts⟩ (c_X8_isZero l hg49) (va_cwS 1 hts gX8_cutsLess_X8_isZero rfl rfl rfl (by decide +kernel) ⟨Nat.le_of_ble_eq_true rfl, Nat.le_of_ble_eq_true rfl⟩) rfl hl.1 rfl (Nat.le_of_ble_eq_true rfl) dX8_cutsLess_49 ?_
    refine lv_if_eq (tgt := 59) hx hb dX8_cutsLess_52 (by decide) (fun c52 => ?_) (fun c52 => ?_)
    · replace hf := o_t c52 hf
      refine lv_iload hx hb dX8_cutsLess_59 (lv_at hl 0 rfl) ?_
      refine lv_i2l hx hb dX8_cutsLess_61 rfl ?_
      refine lv_lconst (v := 1) hx hb dX8_cutsLess_62 (by decide) ?_
      refine lv_ladd hx hb dX8_cutsLess_63 ?_
      exact w_X8_cutsLess_B64 C0 hA hK v_empty_28 v_cut_28 v_box_28 x2 (r40.toInt64 + 1) H locs ls hf hP hD hS (lv_sub hl [] rfl)
    · replace hf := o_f c52 hf
      refine lv_lconst (v := 1) hx hb dX8_cutsLess_55 (by decide) ?_
      refine lv_goto (tgt := 64) hx hb dX8_cutsLess_56 (by decide) ?_
      exact w_X8_cutsLess_B64 C0 hA hK v_empty_28 v_cut_28 v_box_28 x2 1 H locs ls hf hP hD hS (lv_sub hl [] rfl)
def f_X8_cutsLess  (v_empty : Int32) (v_cut : Int32) (v_box : Nat → Int32) (x1 : Int32) (x2 : Int32) : Option (Int32 × Int32 × (Nat → Int32)) :=
  o_b1 (f_X8_high v_box x2) (fun (r2 : Int32) =>
  o_b1 (f_X8_isZero r2) (fun (r12 : Int32) =>
  if r12 = 0 then
    f_X8_cutsLess_B28 v_empty v_cut v_box x1 x2 x1 ((-2139095040)) (r2.toInt64 - 1)
  else
    f_X8_cutsLess_B28 v_empty v_cut v_box x1 x2 x1 ((-2139095040)) ((-2))))
set_option maxHeartbeats 4000000 in
set_option maxRecDepth 100000 in
theorem w_X8_cutsLess_B0 {p : Program} {l : Launch} {e : Env} {s : State} {m : MethodId} {args : Array Value} {below : List Frame} {meth : Method} {c : Code} {D : va_G} {cI cM : ClassId} {A : Nat → Prop} {a_this a_this_all a_this_past a_this_refused a_this_box a_this_row a_this_text a_this_numbers a_this_before : Nat} {v_states : Int32} {v_rowMany : Int32} {v_taken : Int32} {v_found : Int32} {v_textLong : Int32} {v_at : Int32} {v_stopped : Int32} {o_empty : Int32} {o_cut : Int32} {o_box : Nat → Int32} (C0 : g_cx cX8_cutsLess none 5 RX8 wsX8_cutsLess p s m args meth c) (hA : ∀ q, s.heap.size ≤ q → A q) (hK : va_K D vwCl (g_tys cI cM) s) : ∀ (v_empty : Int32) (v_cut : Int32) (v_box : Nat → Int32) (x1 : Int32) (x2 : Int32) (H : Heap) (locs : List Loc) (ls : Array Slot), f_X8_cutsLess v_empty v_cut v_box x1 x2 = some (o_empty, o_cut, o_box) → va_P D vwCl (ww_X8_cutsLess cI cM a_this a_this_all a_this_past a_this_refused a_this_box a_this_row a_this_text a_this_numbers a_this_before v_states v_empty v_cut v_rowMany v_taken v_found v_textLong v_at v_stopped v_box) H → va_D A (ww_X8_cutsLess cI cM a_this a_this_all a_this_past a_this_refused a_this_box a_this_row a_this_text a_this_numbers a_this_before v_states v_empty v_cut v_rowMany v_taken v_found v_textLong v_at v_stopped v_box) → va_S A s.heap H locs → lv_has ls 5 [(0, .ref a_this), (1, .int x1), (2, .int x2)] → W p l e rm_X8_cutsLess s m args below meth c H locs 0 0 (MQ below (g_QV D (g_tys cI cM) A (ww_X8_cutsLess cI cM a_this a_this_all a_this_past a_this_refused a_this_box a_this_row a_this_text a_this_numbers a_this_before v_states o_empty o_cut v_rowMany v_taken v_found v_textLong v_at v_stopped o_box)) args s 0 0 A) (F0 m 0 ls []) := by
  obtain ⟨hx, hb, hr, hml, hown, hts, hlocks⟩ := id C0
  intro v_empty v_cut v_box x1 x2 H locs ls hf hP hD hS hl
  unfold f_X8_cutsLess at hf
  refine lv_aload_n hx hb dX8_cutsLess_0 rfl (lv_at hl 0 rfl) ?_
  refine lv_iload_n hx hb dX8_cutsLess_1 rfl (lv_at hl 2 rfl) ?_
  obtain ⟨r2, hg2, hf⟩ := o_b1_go hf
  refine g_callVi (wn := (ww_X8_cutsLess cI cM a_this a_this_all a_this_past a_this_refused a_this_box a_this_row a_this_text a_this_numbers a_this_before v_states v_empty v_cut v_rowMany v_taken v_found v_textLong v_at v_stopped v_box)) (rest := []) ⟨hx, hb, hml, hown, hts⟩ (c_X8_high l D cI cM a_this a_this_all a_this_past a_this_refused a_this_box a_this_row a_this_text a_this_numbers a_this_before H.size v_states v_empty v_cut v_rowMany v_taken v_found v_textLong v_at v_stopped v_box hg2) (cwV 1 hts gX8_cutsLess_X8_high rfl rfl rfl (by decide +kernel) ⟨Nat.le_of_ble_eq_true rfl, Nat.le_of_ble_eq_true rfl⟩) hK hP hD hS hA [0, 1] [] [0, 1] rfl rfl rfl rfl rfl rfl (by decide) rfl rfl rfl hl.1 rfl (Nat.le_of_ble_eq_true rfl) dX8_cutsLess_2 (fun H locs hP hD hS => ?_)
  refine lv_istore_n (lv' := [(3, .int r2), (0, .ref a_this), (1, .int x1), (2, .int x2)]) hx hb dX8_cutsLess_5 rfl hl (by decide) rfl (fun ls hl => ?_)
  refine lv_aload_n hx hb dX8_cutsLess_6 rfl (lv_at hl 1 rfl) ?_
  refine lv_iload_n hx hb dX8_cutsLess_7 rfl (lv_at hl 2 rfl) ?_
  refine lv_ldc2 (v := (-2139095040)) hx hb hown (hts (.constantLong RX8 34 (-2139095040)) (List.mem_cons_of_mem _ (List.mem_append_left _ (List.mem_of_getElem? (i := 0) rfl)))) dX8_cutsLess_8 ?_
  refine lv_iload_n hx hb dX8_cutsLess_11 rfl (lv_at hl 0 rfl) ?_
  obtain ⟨r12, hg12, hf⟩ := o_b1_go hf
  refine g_callSi (rest := [.long ((-2139095040)), .int x1, .ref a_this]) ⟨hx, hb, hml, hown, hts⟩ (c_X8_isZero l hg12) (va_cwS 1 hts gX8_cutsLess_X8_isZero rfl rfl rfl (by decide +kernel) ⟨Nat.le_of_ble_eq_true rfl, Nat.le_of_ble_eq_true rfl⟩) rfl hl.1 rfl (Nat.le_of_ble_eq_true rfl) dX8_cutsLess_12 ?_
  refine lv_if_eq (tgt := 24) hx hb dX8_cutsLess_15 (by decide) (fun c15 => ?_) (fun c15 => ?_)
  · replace hf := o_t c15 hf
    refine lv_iload_n hx hb dX8_cutsLess_24 rfl (lv_at hl 0 rfl) ?_
    refine lv_i2l hx hb dX8_cutsLess_25 rfl ?_
    refine lv_lconst (v := 1) hx hb dX8_cutsLess_26 (by decide) ?_
    refine lv_lsub hx hb dX8_cutsLess_27 ?_
    exact w_X8_cutsLess_B28 C0 hA hK v_empty v_cut v_box x1 x2 x1 ((-2139095040)) (r2.toInt64 - 1) H locs ls hf hP hD hS (lv_sub hl [1, 2, 3] rfl)
  · replace hf := o_f c15 hf
    refine lv_ldc2 (v := (-2)) hx hb hown (hts (.constantLong RX8 188 (-2)) (List.mem_cons_of_mem _ (List.mem_append_left _ (List.mem_of_getElem? (i := 1) rfl)))) dX8_cutsLess_18 ?_
    refine lv_goto (tgt := 28) hx hb dX8_cutsLess_21 (by decide) ?_
    exact w_X8_cutsLess_B28 C0 hA hK v_empty v_cut v_box x1 x2 x1 ((-2139095040)) ((-2)) H locs ls hf hP hD hS (lv_sub hl [1, 2, 3] rfl)
set_option maxHeartbeats 4000000 in
set_option maxRecDepth 100000 in
theorem c_X8_cutsLess (l : Launch) (D : va_G) (cI cM : ClassId) (a_this a_this_all a_this_past a_this_refused a_this_box a_this_row a_this_text a_this_numbers a_this_before : Nat) (sz : Nat) (v_states : Int32) (v_empty : Int32) (v_cut : Int32) (v_rowMany : Int32) (v_taken : Int32) (v_found : Int32) (v_textLong : Int32) (v_at : Int32) (v_stopped : Int32) (v_box : Nat → Int32) {x1 : Int32} {x2 : Int32} {o_empty : Int32} {o_cut : Int32} {o_box : Nat → Int32} (hf : f_X8_cutsLess v_empty v_cut v_box x1 x2 = some (o_empty, o_cut, o_box)) : Met l yX8_cutsLess wsX8_cutsLess rm_X8_cutsLess (g_Pc D (g_tys cI cM) (ww_X8_cutsLess cI cM a_this a_this_all a_this_past a_this_refused a_this_box a_this_row a_this_text a_this_numbers a_this_before v_states v_empty v_cut v_rowMany v_taken v_found v_textLong v_at v_stopped v_box) sz [.ref a_this, .int x1, .int x2]) (g_QV D (g_tys cI cM) (va_A (ww_X8_cutsLess cI cM a_this a_this_all a_this_past a_this_refused a_this_box a_this_row a_this_text a_this_numbers a_this_before v_states v_empty v_cut v_rowMany v_taken v_found v_textLong v_at v_stopped v_box) sz) (ww_X8_cutsLess cI cM a_this a_this_all a_this_past a_this_refused a_this_box a_this_row a_this_text a_this_numbers a_this_before v_states o_empty o_cut v_rowMany v_taken v_found v_textLong v_at v_stopped o_box)) 0 0 (va_A (ww_X8_cutsLess cI cM a_this a_this_all a_this_past a_this_refused a_this_box a_this_row a_this_text a_this_numbers a_this_before v_states v_empty v_cut v_rowMany v_taken v_found v_textLong v_at v_stopped v_box) sz) := by
  refine g_met (cc := cX8_cutsLess) (maxL := 5) (ret := none) (Qc := fun D A => g_QV D (g_tys cI cM) A (ww_X8_cutsLess cI cM a_this a_this_all a_this_past a_this_refused a_this_box a_this_row a_this_text a_this_numbers a_this_before v_states o_empty o_cut v_rowMany v_taken v_found v_textLong v_at v_stopped o_box)) (by decide) rfl ?_
  intro p e s m below meth c A C0 hA hK hP hD
  have hl := lv_entry ([.ref a_this, .int x1, .int x2]) (n := 5) (Nat.le_of_ble_eq_true rfl)
  rw [lg_entry_eq]
  generalize (lg_sl ([.ref a_this, .int x1, .int x2]) ++ List.replicate (5 - (lg_sl ([.ref a_this, .int x1, .int x2])).length) Slot.unset).toArray = ls at hl ⊢
  have hl : lv_has ls 5 [(0, .ref a_this), (1, .int x1), (2, .int x2)] := hl
  exact w_X8_cutsLess_B0 C0 hA hK v_empty v_cut v_box x1 x2 s.heap [] ls hf hP hD va_S.rf (lv_sub hl [0, 1, 2] rfl)
/-! FloatBoxesModel.keepsSame(II)V -/
abbrev rm_X8_keepsSame : Room := { frames := 2, cells := 0, slots := 0, locals := 50 }
abbrev ww_X8_keepsSame (cI cM : ClassId) (a_this a_this_all a_this_past a_this_refused a_this_box a_this_row a_this_text a_this_numbers a_this_before : Nat) (v_states : Int32) (v_empty : Int32) (v_cut : Int32) (v_rowMany : Int32) (v_taken : Int32) (v_found : Int32) (v_textLong : Int32) (v_at : Int32) (v_stopped : Int32) (v_box : Nat → Int32) : va_W := [(a_this, .inr (6, [.ref a_this_all, .ref a_this_past, .int v_states, .ref a_this_refused, .ref a_this_box, .int v_empty, .int v_cut, .ref a_this_row, .int v_rowMany, .int v_taken, .int v_found, .ref a_this_text, .int v_textLong, .int v_at, .ref a_this_numbers, .int v_stopped, .ref a_this_before])), (a_this_box, .inl (cI, 12, .inl v_box))]
def f_X8_keepsSame_B48  (v_empty : Int32) (v_cut : Int32) (v_box : Nat → Int32) (z1 : Int32) (z2 : Int64) (z3 : Int64) : Option (Int32 × Int32 × (Nat → Int32)) :=
  o_b3 (f_X8_keeps v_empty v_cut v_box z1 z2 z3) (fun (v_empty_48 : Int32) (v_cut_48 : Int32) (v_box_48 : Nat → Int32) =>
  some (v_empty_48, v_cut_48, v_box_48))
set_option maxHeartbeats 4000000 in
set_option maxRecDepth 100000 in
theorem w_X8_keepsSame_B48 {p : Program} {l : Launch} {e : Env} {s : State} {m : MethodId} {args : Array Value} {below : List Frame} {meth : Method} {c : Code} {D : va_G} {cI cM : ClassId} {A : Nat → Prop} {a_this a_this_all a_this_past a_this_refused a_this_box a_this_row a_this_text a_this_numbers a_this_before : Nat} {v_states : Int32} {v_rowMany : Int32} {v_taken : Int32} {v_found : Int32} {v_textLong : Int32} {v_at : Int32} {v_stopped : Int32} {o_empty : Int32} {o_cut : Int32} {o_box : Nat → Int32} (C0 : g_cx cX8_keepsSame none 5 RX8 wsX8_keepsSame p s m args meth c) (hA : ∀ q, s.heap.size ≤ q → A q) (hK : va_K D vwCl (g_tys cI cM) s) : ∀ (v_empty : Int32) (v_cut : Int32) (v_box : Nat → Int32) (z1 : Int32) (z2 : Int64) (z3 : Int64) (H : Heap) (locs : List Loc) (ls : Array Slot), f_X8_keepsSame_B48 v_empty v_cut v_box z1 z2 z3 = some (o_empty, o_cut, o_box) → va_P D vwCl (ww_X8_keepsSame cI cM a_this a_this_all a_this_past a_this_refused a_this_box a_this_row a_this_text a_this_numbers a_this_before v_states v_empty v_cut v_rowMany v_taken v_found v_textLong v_at v_stopped v_box) H → va_D A (ww_X8_keepsSame cI cM a_this a_this_all a_this_past a_this_refused a_this_box a_this_row a_this_text a_this_numbers a_this_before v_states v_empty v_cut v_rowMany v_taken v_found v_textLong v_at v_stopped v_box) → va_S A s.heap H locs → lv_has ls 5 [] → W p l e rm_X8_keepsSame s m args below meth c H locs 0 0 (MQ below (g_QV D (g_tys cI cM) A (ww_X8_keepsSame cI cM a_this a_this_all a_this_past a_this_refused a_this_box a_this_row a_this_text a_this_numbers a_this_before v_states o_empty o_cut v_rowMany v_taken v_found v_textLong v_at v_stopped o_box)) args s 0 0 A) (F0 m 48 ls [.long z3, .long z2, .int z1, .ref a_this]) := by
  obtain ⟨hx, hb, hr, hml, hown, hts, hlocks⟩ := id C0
  intro v_empty v_cut v_box z1 z2 z3 H locs ls hf hP hD hS hl
  unfold f_X8_keepsSame_B48 at hf
  obtain ⟨v_empty_48, v_cut_48, v_box_48, hg48, hf⟩ := o_b3_go hf
  refine g_callVv (wn := (ww_X8_keepsSame cI cM a_this a_this_all a_this_past a_this_refused a_this_box a_this_row a_this_text a_this_numbers a_this_before v_states v_empty_48 v_cut_48 v_rowMany v_taken v_found v_textLong v_at v_stopped v_box_48)) (rest := []) ⟨hx, hb, hml, hown, hts⟩ (c_X8_keeps l D cI cM a_this a_this_all a_this_past a_this_refused a_this_box a_this_row a_this_text a_this_numbers a_this_before H.size v_states v_empty v_cut v_rowMany v_taken v_found v_textLong v_at v_stopped v_box hg48) (cwV 3 hts gX8_keepsSame_X8_keeps rfl rfl rfl (by decide +kernel) ⟨Nat.le_of_ble_eq_true rfl, Nat.le_of_ble_eq_true rfl⟩) hK hP hD hS hA [0, 1] [] [0, 1] rfl rfl rfl rfl rfl rfl (by decide) rfl rfl rfl hl.1 rfl (Nat.le_of_ble_eq_true rfl) dX8_keepsSame_48 (fun H locs hP hD hS => ?_)
  obtain ⟨q0, y0⟩ := o_rp hf
  obtain ⟨q1, y1⟩ := o_rp y0
  have q2 := Option.some.inj y1
  subst q0 q1 q2
  exact g_vret hx hb hr hlocks hP hD hK hS dX8_keepsSame_51
def f_X8_keepsSame_B35  (v_empty : Int32) (v_cut : Int32) (v_box : Nat → Int32) (x4 : Int32) (z1 : Int32) (z2 : Int64) : Option (Int32 × Int32 × (Nat → Int32)) :=
  if x4 = ((-1)) then
    f_X8_keepsSame_B48 v_empty v_cut v_box z1 z2 0
  else
    f_X8_keepsSame_B48 v_empty v_cut v_box z1 z2 x4.toInt64
set_option maxHeartbeats 4000000 in
set_option maxRecDepth 100000 in
theorem w_X8_keepsSame_B35 {p : Program} {l : Launch} {e : Env} {s : State} {m : MethodId} {args : Array Value} {below : List Frame} {meth : Method} {c : Code} {D : va_G} {cI cM : ClassId} {A : Nat → Prop} {a_this a_this_all a_this_past a_this_refused a_this_box a_this_row a_this_text a_this_numbers a_this_before : Nat} {v_states : Int32} {v_rowMany : Int32} {v_taken : Int32} {v_found : Int32} {v_textLong : Int32} {v_at : Int32} {v_stopped : Int32} {o_empty : Int32} {o_cut : Int32} {o_box : Nat → Int32} (C0 : g_cx cX8_keepsSame none 5 RX8 wsX8_keepsSame p s m args meth c) (hA : ∀ q, s.heap.size ≤ q → A q) (hK : va_K D vwCl (g_tys cI cM) s) : ∀ (v_empty : Int32) (v_cut : Int32) (v_box : Nat → Int32) (x4 : Int32) (z1 : Int32) (z2 : Int64) (H : Heap) (locs : List Loc) (ls : Array Slot), f_X8_keepsSame_B35 v_empty v_cut v_box x4 z1 z2 = some (o_empty, o_cut, o_box) → va_P D vwCl (ww_X8_keepsSame cI cM a_this a_this_all a_this_past a_this_refused a_this_box a_this_row a_this_text a_this_numbers a_this_before v_states v_empty v_cut v_rowMany v_taken v_found v_textLong v_at v_stopped v_box) H → va_D A (ww_X8_keepsSame cI cM a_this a_this_all a_this_past a_this_refused a_this_box a_this_row a_this_text a_this_numbers a_this_before v_states v_empty v_cut v_rowMany v_taken v_found v_textLong v_at v_stopped v_box) → va_S A s.heap H locs → lv_has ls 5 [(4, .int x4)] → W p l e rm_X8_keepsSame s m args below meth c H locs 0 0 (MQ below (g_QV D (g_tys cI cM) A (ww_X8_keepsSame cI cM a_this a_this_all a_this_past a_this_refused a_this_box a_this_row a_this_text a_this_numbers a_this_before v_states o_empty o_cut v_rowMany v_taken v_found v_textLong v_at v_stopped o_box)) args s 0 0 A) (F0 m 35 ls [.long z2, .int z1, .ref a_this]) := by
  obtain ⟨hx, hb, hr, hml, hown, hts, hlocks⟩ := id C0
  intro v_empty v_cut v_box x4 z1 z2 H locs ls hf hP hD hS hl
  unfold f_X8_keepsSame_B35 at hf
  refine lv_iload hx hb dX8_keepsSame_35 (lv_at hl 0 rfl) ?_
  refine lv_iconst (v := (-1)) hx hb dX8_keepsSame_37 (by decide) ?_
  refine lv_icmp_ne (tgt := 45) hx hb dX8_keepsSame_38 (by decide) (fun c38 => ?_) (fun c38 => ?_)
  · replace hf := o_f c38 hf
    refine lv_iload hx hb dX8_keepsSame_45 (lv_at hl 0 rfl) ?_
    refine lv_i2l hx hb dX8_keepsSame_47 rfl ?_
    exact w_X8_keepsSame_B48 C0 hA hK v_empty v_cut v_box z1 z2 x4.toInt64 H locs ls hf hP hD hS (lv_sub hl [] rfl)
  · replace hf := o_t c38 hf
    refine lv_lconst (v := 0) hx hb dX8_keepsSame_41 (by decide) ?_
    refine lv_goto (tgt := 48) hx hb dX8_keepsSame_42 (by decide) ?_
    exact w_X8_keepsSame_B48 C0 hA hK v_empty v_cut v_box z1 z2 0 H locs ls hf hP hD hS (lv_sub hl [] rfl)
def f_X8_keepsSame  (v_empty : Int32) (v_cut : Int32) (v_box : Nat → Int32) (x1 : Int32) (x2 : Int32) : Option (Int32 × Int32 × (Nat → Int32)) :=
  if v_empty = 0 then
    o_b1 (f_X8_low v_box x2) (fun (r10 : Int32) =>
    o_b1 (f_X8_high v_box x2) (fun (r16 : Int32) =>
    if r10 = 0 then
      f_X8_keepsSame_B35 v_empty v_cut v_box r16 x1 ((-1))
    else
      f_X8_keepsSame_B35 v_empty v_cut v_box r16 x1 r10.toInt64))
  else
    some (v_empty, v_cut, v_box)
set_option maxHeartbeats 4000000 in
set_option maxRecDepth 100000 in
theorem w_X8_keepsSame_B0 {p : Program} {l : Launch} {e : Env} {s : State} {m : MethodId} {args : Array Value} {below : List Frame} {meth : Method} {c : Code} {D : va_G} {cI cM : ClassId} {A : Nat → Prop} {a_this a_this_all a_this_past a_this_refused a_this_box a_this_row a_this_text a_this_numbers a_this_before : Nat} {v_states : Int32} {v_rowMany : Int32} {v_taken : Int32} {v_found : Int32} {v_textLong : Int32} {v_at : Int32} {v_stopped : Int32} {o_empty : Int32} {o_cut : Int32} {o_box : Nat → Int32} (C0 : g_cx cX8_keepsSame none 5 RX8 wsX8_keepsSame p s m args meth c) (hA : ∀ q, s.heap.size ≤ q → A q) (hK : va_K D vwCl (g_tys cI cM) s) : ∀ (v_empty : Int32) (v_cut : Int32) (v_box : Nat → Int32) (x1 : Int32) (x2 : Int32) (H : Heap) (locs : List Loc) (ls : Array Slot), f_X8_keepsSame v_empty v_cut v_box x1 x2 = some (o_empty, o_cut, o_box) → va_P D vwCl (ww_X8_keepsSame cI cM a_this a_this_all a_this_past a_this_refused a_this_box a_this_row a_this_text a_this_numbers a_this_before v_states v_empty v_cut v_rowMany v_taken v_found v_textLong v_at v_stopped v_box) H → va_D A (ww_X8_keepsSame cI cM a_this a_this_all a_this_past a_this_refused a_this_box a_this_row a_this_text a_this_numbers a_this_before v_states v_empty v_cut v_rowMany v_taken v_found v_textLong v_at v_stopped v_box) → va_S A s.heap H locs → lv_has ls 5 [(0, .ref a_this), (1, .int x1), (2, .int x2)] → W p l e rm_X8_keepsSame s m args below meth c H locs 0 0 (MQ below (g_QV D (g_tys cI cM) A (ww_X8_keepsSame cI cM a_this a_this_all a_this_past a_this_refused a_this_box a_this_row a_this_text a_this_numbers a_this_before v_states o_empty o_cut v_rowMany v_taken v_found v_textLong v_at v_stopped o_box)) args s 0 0 A) (F0 m 0 ls []) := by
  obtain ⟨hx, hb, hr, hml, hown, hts, hlocks⟩ := id C0
  intro v_empty v_cut v_box x1 x2 H locs ls hf hP hD hS hl
  unfold f_X8_keepsSame at hf
  refine lv_aload_n hx hb dX8_keepsSame_0 rfl (lv_at hl 0 rfl) ?_
  refine va_get (D := D) (ci := 6) (v := .int v_empty) (C := RX8) (T := TX8) (N := 17) hx hb hts (fun _ h => (List.mem_cons_of_mem _ (List.mem_append_right _ h))) hown hK hP 0 rfl rfl 5 (by decide) (hts (.fieldLink RX8 124 "FloatBoxesModel" "empty" "Z") (List.mem_cons_of_mem _ (List.mem_append_left _ (List.mem_of_getElem? (i := 0) rfl)))) (fun _ h9 => h9) rfl dX8_keepsSame_1 ?_
  refine lv_if_eq (tgt := 8) hx hb dX8_keepsSame_4 (by decide) (fun c4 => ?_) (fun c4 => ?_)
  · replace hf := o_t c4 hf
    refine lv_aload_n hx hb dX8_keepsSame_8 rfl (lv_at hl 0 rfl) ?_
    refine lv_iload_n hx hb dX8_keepsSame_9 rfl (lv_at hl 2 rfl) ?_
    obtain ⟨r10, hg10, hf⟩ := o_b1_go hf
    refine g_callVi (wn := (ww_X8_keepsSame cI cM a_this a_this_all a_this_past a_this_refused a_this_box a_this_row a_this_text a_this_numbers a_this_before v_states v_empty v_cut v_rowMany v_taken v_found v_textLong v_at v_stopped v_box)) (rest := []) ⟨hx, hb, hml, hown, hts⟩ (c_X8_low l D cI cM a_this a_this_all a_this_past a_this_refused a_this_box a_this_row a_this_text a_this_numbers a_this_before H.size v_states v_empty v_cut v_rowMany v_taken v_found v_textLong v_at v_stopped v_box hg10) (cwV 1 hts gX8_keepsSame_X8_low rfl rfl rfl (by decide +kernel) ⟨Nat.le_of_ble_eq_true rfl, Nat.le_of_ble_eq_true rfl⟩) hK hP hD hS hA [0, 1] [] [0, 1] rfl rfl rfl rfl rfl rfl (by decide) rfl rfl rfl hl.1 rfl (Nat.le_of_ble_eq_true rfl) dX8_keepsSame_10 (fun H locs hP hD hS => ?_)
    refine lv_istore_n (lv' := [(3, .int r10), (0, .ref a_this), (1, .int x1), (2, .int x2)]) hx hb dX8_keepsSame_13 rfl hl (by decide) rfl (fun ls hl => ?_)
    refine lv_aload_n hx hb dX8_keepsSame_14 rfl (lv_at hl 1 rfl) ?_
    refine lv_iload_n hx hb dX8_keepsSame_15 rfl (lv_at hl 3 rfl) ?_
    obtain ⟨r16, hg16, hf⟩ := o_b1_go hf
    refine g_callVi (wn := (ww_X8_keepsSame cI cM a_this a_this_all a_this_past a_this_refused a_this_box a_this_row a_this_text a_this_numbers a_this_before v_states v_empty v_cut v_rowMany v_taken v_found v_textLong v_at v_stopped v_box)) (rest := []) ⟨hx, hb, hml, hown, hts⟩ (c_X8_high l D cI cM a_this a_this_all a_this_past a_this_refused a_this_box a_this_row a_this_text a_this_numbers a_this_before H.size v_states v_empty v_cut v_rowMany v_taken v_found v_textLong v_at v_stopped v_box hg16) (cwV 1 hts gX8_keepsSame_X8_high rfl rfl rfl (by decide +kernel) ⟨Nat.le_of_ble_eq_true rfl, Nat.le_of_ble_eq_true rfl⟩) hK hP hD hS hA [0, 1] [] [0, 1] rfl rfl rfl rfl rfl rfl (by decide) rfl rfl rfl hl.1 rfl (Nat.le_of_ble_eq_true rfl) dX8_keepsSame_16 (fun H locs hP hD hS => ?_)
    refine lv_istore (lv' := [(4, .int r16), (3, .int r10), (0, .ref a_this), (1, .int x1), (2, .int x2)]) hx hb dX8_keepsSame_19 hl (by decide) rfl (fun ls hl => ?_)
    refine lv_aload_n hx hb dX8_keepsSame_21 rfl (lv_at hl 2 rfl) ?_
    refine lv_iload_n hx hb dX8_keepsSame_22 rfl (lv_at hl 3 rfl) ?_
    refine lv_iload_n hx hb dX8_keepsSame_23 rfl (lv_at hl 1 rfl) ?_
    refine lv_if_ne (tgt := 33) hx hb dX8_keepsSame_24 (by decide) (fun c24 => ?_) (fun c24 => ?_)
    · replace hf := o_f c24 hf
      refine lv_iload_n hx hb dX8_keepsSame_33 rfl (lv_at hl 1 rfl) ?_
      refine lv_i2l hx hb dX8_keepsSame_34 rfl ?_
      exact w_X8_keepsSame_B35 C0 hA hK v_empty v_cut v_box r16 x1 r10.toInt64 H locs ls hf hP hD hS (lv_sub hl [0] rfl)
    · replace hf := o_t c24 hf
      refine lv_ldc2 (v := (-1)) hx hb hown (hts (.constantLong RX8 190 (-1)) (List.mem_cons_of_mem _ (List.mem_append_left _ (List.mem_of_getElem? (i := 1) rfl)))) dX8_keepsSame_27 ?_
      refine lv_goto (tgt := 35) hx hb dX8_keepsSame_30 (by decide) ?_
      exact w_X8_keepsSame_B35 C0 hA hK v_empty v_cut v_box r16 x1 ((-1)) H locs ls hf hP hD hS (lv_sub hl [0] rfl)
  · replace hf := o_f c4 hf
    obtain ⟨q0, y0⟩ := o_rp hf
    obtain ⟨q1, y1⟩ := o_rp y0
    have q2 := Option.some.inj y1
    subst q0 q1 q2
    exact g_vret hx hb hr hlocks hP hD hK hS dX8_keepsSame_7
set_option maxHeartbeats 4000000 in
set_option maxRecDepth 100000 in
theorem c_X8_keepsSame (l : Launch) (D : va_G) (cI cM : ClassId) (a_this a_this_all a_this_past a_this_refused a_this_box a_this_row a_this_text a_this_numbers a_this_before : Nat) (sz : Nat) (v_states : Int32) (v_empty : Int32) (v_cut : Int32) (v_rowMany : Int32) (v_taken : Int32) (v_found : Int32) (v_textLong : Int32) (v_at : Int32) (v_stopped : Int32) (v_box : Nat → Int32) {x1 : Int32} {x2 : Int32} {o_empty : Int32} {o_cut : Int32} {o_box : Nat → Int32} (hf : f_X8_keepsSame v_empty v_cut v_box x1 x2 = some (o_empty, o_cut, o_box)) : Met l yX8_keepsSame wsX8_keepsSame rm_X8_keepsSame (g_Pc D (g_tys cI cM) (ww_X8_keepsSame cI cM a_this a_this_all a_this_past a_this_refused a_this_box a_this_row a_this_text a_this_numbers a_this_before v_states v_empty v_cut v_rowMany v_taken v_found v_textLong v_at v_stopped v_box) sz [.ref a_this, .int x1, .int x2]) (g_QV D (g_tys cI cM) (va_A (ww_X8_keepsSame cI cM a_this a_this_all a_this_past a_this_refused a_this_box a_this_row a_this_text a_this_numbers a_this_before v_states v_empty v_cut v_rowMany v_taken v_found v_textLong v_at v_stopped v_box) sz) (ww_X8_keepsSame cI cM a_this a_this_all a_this_past a_this_refused a_this_box a_this_row a_this_text a_this_numbers a_this_before v_states o_empty o_cut v_rowMany v_taken v_found v_textLong v_at v_stopped o_box)) 0 0 (va_A (ww_X8_keepsSame cI cM a_this a_this_all a_this_past a_this_refused a_this_box a_this_row a_this_text a_this_numbers a_this_before v_states v_empty v_cut v_rowMany v_taken v_found v_textLong v_at v_stopped v_box) sz) := by
  refine g_met (cc := cX8_keepsSame) (maxL := 5) (ret := none) (Qc := fun D A => g_QV D (g_tys cI cM) A (ww_X8_keepsSame cI cM a_this a_this_all a_this_past a_this_refused a_this_box a_this_row a_this_text a_this_numbers a_this_before v_states o_empty o_cut v_rowMany v_taken v_found v_textLong v_at v_stopped o_box)) (by decide) rfl ?_
  intro p e s m below meth c A C0 hA hK hP hD
  have hl := lv_entry ([.ref a_this, .int x1, .int x2]) (n := 5) (Nat.le_of_ble_eq_true rfl)
  rw [lg_entry_eq]
  generalize (lg_sl ([.ref a_this, .int x1, .int x2]) ++ List.replicate (5 - (lg_sl ([.ref a_this, .int x1, .int x2])).length) Slot.unset).toArray = ls at hl ⊢
  have hl : lv_has ls 5 [(0, .ref a_this), (1, .int x1), (2, .int x2)] := hl
  exact w_X8_keepsSame_B0 C0 hA hK v_empty v_cut v_box x1 x2 s.heap [] ls hf hP hD va_S.rf (lv_sub hl [0, 1, 2] rfl)
/-! FloatBoxesModel.keepsTurned(II)V -/
abbrev rm_X8_keepsTurned : Room := { frames := 2, cells := 0, slots := 0, locals := 50 }
abbrev ww_X8_keepsTurned (cI cM : ClassId) (a_this a_this_all a_this_past a_this_refused a_this_box a_this_row a_this_text a_this_numbers a_this_before : Nat) (v_states : Int32) (v_empty : Int32) (v_cut : Int32) (v_rowMany : Int32) (v_taken : Int32) (v_found : Int32) (v_textLong : Int32) (v_at : Int32) (v_stopped : Int32) (v_box : Nat → Int32) : va_W := [(a_this, .inr (6, [.ref a_this_all, .ref a_this_past, .int v_states, .ref a_this_refused, .ref a_this_box, .int v_empty, .int v_cut, .ref a_this_row, .int v_rowMany, .int v_taken, .int v_found, .ref a_this_text, .int v_textLong, .int v_at, .ref a_this_numbers, .int v_stopped, .ref a_this_before])), (a_this_box, .inl (cI, 12, .inl v_box))]
def f_X8_keepsTurned  (v_empty : Int32) (v_cut : Int32) (v_box : Nat → Int32) (x1 : Int32) (x2 : Int32) : Option (Int32 × Int32 × (Nat → Int32)) :=
  if v_empty = 0 then
    o_b1 (f_X8_high v_box x2) (fun (r15 : Int32) =>
    o_b1 (f_X8_low v_box x2) (fun (r25 : Int32) =>
    o_b3 (f_X8_keeps v_empty v_cut v_box x1 (((-1)) - r15.toInt64) (((-1)) - r25.toInt64)) (fun (v_empty_30 : Int32) (v_cut_30 : Int32) (v_box_30 : Nat → Int32) =>
    some (v_empty_30, v_cut_30, v_box_30))))
  else
    some (v_empty, v_cut, v_box)
set_option maxHeartbeats 4000000 in
set_option maxRecDepth 100000 in
theorem w_X8_keepsTurned_B0 {p : Program} {l : Launch} {e : Env} {s : State} {m : MethodId} {args : Array Value} {below : List Frame} {meth : Method} {c : Code} {D : va_G} {cI cM : ClassId} {A : Nat → Prop} {a_this a_this_all a_this_past a_this_refused a_this_box a_this_row a_this_text a_this_numbers a_this_before : Nat} {v_states : Int32} {v_rowMany : Int32} {v_taken : Int32} {v_found : Int32} {v_textLong : Int32} {v_at : Int32} {v_stopped : Int32} {o_empty : Int32} {o_cut : Int32} {o_box : Nat → Int32} (C0 : g_cx cX8_keepsTurned none 3 RX8 wsX8_keepsTurned p s m args meth c) (hA : ∀ q, s.heap.size ≤ q → A q) (hK : va_K D vwCl (g_tys cI cM) s) : ∀ (v_empty : Int32) (v_cut : Int32) (v_box : Nat → Int32) (x1 : Int32) (x2 : Int32) (H : Heap) (locs : List Loc) (ls : Array Slot), f_X8_keepsTurned v_empty v_cut v_box x1 x2 = some (o_empty, o_cut, o_box) → va_P D vwCl (ww_X8_keepsTurned cI cM a_this a_this_all a_this_past a_this_refused a_this_box a_this_row a_this_text a_this_numbers a_this_before v_states v_empty v_cut v_rowMany v_taken v_found v_textLong v_at v_stopped v_box) H → va_D A (ww_X8_keepsTurned cI cM a_this a_this_all a_this_past a_this_refused a_this_box a_this_row a_this_text a_this_numbers a_this_before v_states v_empty v_cut v_rowMany v_taken v_found v_textLong v_at v_stopped v_box) → va_S A s.heap H locs → lv_has ls 3 [(0, .ref a_this), (1, .int x1), (2, .int x2)] → W p l e rm_X8_keepsTurned s m args below meth c H locs 0 0 (MQ below (g_QV D (g_tys cI cM) A (ww_X8_keepsTurned cI cM a_this a_this_all a_this_past a_this_refused a_this_box a_this_row a_this_text a_this_numbers a_this_before v_states o_empty o_cut v_rowMany v_taken v_found v_textLong v_at v_stopped o_box)) args s 0 0 A) (F0 m 0 ls []) := by
  obtain ⟨hx, hb, hr, hml, hown, hts, hlocks⟩ := id C0
  intro v_empty v_cut v_box x1 x2 H locs ls hf hP hD hS hl
  unfold f_X8_keepsTurned at hf
  refine lv_aload_n hx hb dX8_keepsTurned_0 rfl (lv_at hl 0 rfl) ?_
  refine va_get (D := D) (ci := 6) (v := .int v_empty) (C := RX8) (T := TX8) (N := 17) hx hb hts (fun _ h => (List.mem_cons_of_mem _ (List.mem_append_right _ h))) hown hK hP 0 rfl rfl 5 (by decide) (hts (.fieldLink RX8 124 "FloatBoxesModel" "empty" "Z") (List.mem_cons_of_mem _ (List.mem_append_left _ (List.mem_of_getElem? (i := 0) rfl)))) (fun _ h9 => h9) rfl dX8_keepsTurned_1 ?_
  refine lv_if_eq (tgt := 8) hx hb dX8_keepsTurned_4 (by decide) (fun c4 => ?_) (fun c4 => ?_)
  · replace hf := o_t c4 hf
    refine lv_aload_n hx hb dX8_keepsTurned_8 rfl (lv_at hl 0 rfl) ?_
    refine lv_iload_n hx hb dX8_keepsTurned_9 rfl (lv_at hl 1 rfl) ?_
    refine lv_ldc2 (v := (-1)) hx hb hown (hts (.constantLong RX8 190 (-1)) (List.mem_cons_of_mem _ (List.mem_append_left _ (List.mem_of_getElem? (i := 1) rfl)))) dX8_keepsTurned_10 ?_
    refine lv_aload_n hx hb dX8_keepsTurned_13 rfl (lv_at hl 0 rfl) ?_
    refine lv_iload_n hx hb dX8_keepsTurned_14 rfl (lv_at hl 2 rfl) ?_
    obtain ⟨r15, hg15, hf⟩ := o_b1_go hf
    refine g_callVi (wn := (ww_X8_keepsTurned cI cM a_this a_this_all a_this_past a_this_refused a_this_box a_this_row a_this_text a_this_numbers a_this_before v_states v_empty v_cut v_rowMany v_taken v_found v_textLong v_at v_stopped v_box)) (rest := [.long ((-1)), .int x1, .ref a_this]) ⟨hx, hb, hml, hown, hts⟩ (c_X8_high l D cI cM a_this a_this_all a_this_past a_this_refused a_this_box a_this_row a_this_text a_this_numbers a_this_before H.size v_states v_empty v_cut v_rowMany v_taken v_found v_textLong v_at v_stopped v_box hg15) (cwV 1 hts gX8_keepsTurned_X8_high rfl rfl rfl (by decide +kernel) ⟨Nat.le_of_ble_eq_true rfl, Nat.le_of_ble_eq_true rfl⟩) hK hP hD hS hA [0, 1] [] [0, 1] rfl rfl rfl rfl rfl rfl (by decide) rfl rfl rfl hl.1 rfl (Nat.le_of_ble_eq_true rfl) dX8_keepsTurned_15 (fun H locs hP hD hS => ?_)
    refine lv_i2l hx hb dX8_keepsTurned_18 rfl ?_
    refine lv_lsub hx hb dX8_keepsTurned_19 ?_
    refine lv_ldc2 (v := (-1)) hx hb hown (hts (.constantLong RX8 190 (-1)) (List.mem_cons_of_mem _ (List.mem_append_left _ (List.mem_of_getElem? (i := 1) rfl)))) dX8_keepsTurned_20 ?_
    refine lv_aload_n hx hb dX8_keepsTurned_23 rfl (lv_at hl 0 rfl) ?_
    refine lv_iload_n hx hb dX8_keepsTurned_24 rfl (lv_at hl 2 rfl) ?_
    obtain ⟨r25, hg25, hf⟩ := o_b1_go hf
    refine g_callVi (wn := (ww_X8_keepsTurned cI cM a_this a_this_all a_this_past a_this_refused a_this_box a_this_row a_this_text a_this_numbers a_this_before v_states v_empty v_cut v_rowMany v_taken v_found v_textLong v_at v_stopped v_box)) (rest := [.long ((-1)), .long (((-1)) - r15.toInt64), .int x1, .ref a_this]) ⟨hx, hb, hml, hown, hts⟩ (c_X8_low l D cI cM a_this a_this_all a_this_past a_this_refused a_this_box a_this_row a_this_text a_this_numbers a_this_before H.size v_states v_empty v_cut v_rowMany v_taken v_found v_textLong v_at v_stopped v_box hg25) (cwV 1 hts gX8_keepsTurned_X8_low rfl rfl rfl (by decide +kernel) ⟨Nat.le_of_ble_eq_true rfl, Nat.le_of_ble_eq_true rfl⟩) hK hP hD hS hA [0, 1] [] [0, 1] rfl rfl rfl rfl rfl rfl (by decide) rfl rfl rfl hl.1 rfl (Nat.le_of_ble_eq_true rfl) dX8_keepsTurned_25 (fun H locs hP hD hS => ?_)
    refine lv_i2l hx hb dX8_keepsTurned_28 rfl ?_
    refine lv_lsub hx hb dX8_keepsTurned_29 ?_
    obtain ⟨v_empty_30, v_cut_30, v_box_30, hg30, hf⟩ := o_b3_go hf
    refine g_callVv (wn := (ww_X8_keepsTurned cI cM a_this a_this_all a_this_past a_this_refused a_this_box a_this_row a_this_text a_this_numbers a_this_before v_states v_empty_30 v_cut_30 v_rowMany v_taken v_found v_textLong v_at v_stopped v_box_30)) (rest := []) ⟨hx, hb, hml, hown, hts⟩ (c_X8_keeps l D cI cM a_this a_this_all a_this_past a_this_refused a_this_box a_this_row a_this_text a_this_numbers a_this_before H.size v_states v_empty v_cut v_rowMany v_taken v_found v_textLong v_at v_stopped v_box hg30) (cwV 3 hts gX8_keepsTurned_X8_keeps rfl rfl rfl (by decide +kernel) ⟨Nat.le_of_ble_eq_true rfl, Nat.le_of_ble_eq_true rfl⟩) hK hP hD hS hA [0, 1] [] [0, 1] rfl rfl rfl rfl rfl rfl (by decide) rfl rfl rfl hl.1 rfl (Nat.le_of_ble_eq_true rfl) dX8_keepsTurned_30 (fun H locs hP hD hS => ?_)
    obtain ⟨q0, y0⟩ := o_rp hf
    obtain ⟨q1, y1⟩ := o_rp y0
    have q2 := Option.some.inj y1
    subst q0 q1 q2
    exact g_vret hx hb hr hlocks hP hD hK hS dX8_keepsTurned_33
  · replace hf := o_f c4 hf
    obtain ⟨q0, y0⟩ := o_rp hf
    obtain ⟨q1, y1⟩ := o_rp y0
    have q2 := Option.some.inj y1
    subst q0 q1 q2
    exact g_vret hx hb hr hlocks hP hD hK hS dX8_keepsTurned_7
set_option maxHeartbeats 4000000 in
set_option maxRecDepth 100000 in
theorem c_X8_keepsTurned (l : Launch) (D : va_G) (cI cM : ClassId) (a_this a_this_all a_this_past a_this_refused a_this_box a_this_row a_this_text a_this_numbers a_this_before : Nat) (sz : Nat) (v_states : Int32) (v_empty : Int32) (v_cut : Int32) (v_rowMany : Int32) (v_taken : Int32) (v_found : Int32) (v_textLong : Int32) (v_at : Int32) (v_stopped : Int32) (v_box : Nat → Int32) {x1 : Int32} {x2 : Int32} {o_empty : Int32} {o_cut : Int32} {o_box : Nat → Int32} (hf : f_X8_keepsTurned v_empty v_cut v_box x1 x2 = some (o_empty, o_cut, o_box)) : Met l yX8_keepsTurned wsX8_keepsTurned rm_X8_keepsTurned (g_Pc D (g_tys cI cM) (ww_X8_keepsTurned cI cM a_this a_this_all a_this_past a_this_refused a_this_box a_this_row a_this_text a_this_numbers a_this_before v_states v_empty v_cut v_rowMany v_taken v_found v_textLong v_at v_stopped v_box) sz [.ref a_this, .int x1, .int x2]) (g_QV D (g_tys cI cM) (va_A (ww_X8_keepsTurned cI cM a_this a_this_all a_this_past a_this_refused a_this_box a_this_row a_this_text a_this_numbers a_this_before v_states v_empty v_cut v_rowMany v_taken v_found v_textLong v_at v_stopped v_box) sz) (ww_X8_keepsTurned cI cM a_this a_this_all a_this_past a_this_refused a_this_box a_this_row a_this_text a_this_numbers a_this_before v_states o_empty o_cut v_rowMany v_taken v_found v_textLong v_at v_stopped o_box)) 0 0 (va_A (ww_X8_keepsTurned cI cM a_this a_this_all a_this_past a_this_refused a_this_box a_this_row a_this_text a_this_numbers a_this_before v_states v_empty v_cut v_rowMany v_taken v_found v_textLong v_at v_stopped v_box) sz) := by
  refine g_met (cc := cX8_keepsTurned) (maxL := 3) (ret := none) (Qc := fun D A => g_QV D (g_tys cI cM) A (ww_X8_keepsTurned cI cM a_this a_this_all a_this_past a_this_refused a_this_box a_this_row a_this_text a_this_numbers a_this_before v_states o_empty o_cut v_rowMany v_taken v_found v_textLong v_at v_stopped o_box)) (by decide) rfl ?_
  intro p e s m below meth c A C0 hA hK hP hD
  have hl := lv_entry ([.ref a_this, .int x1, .int x2]) (n := 3) (Nat.le_of_ble_eq_true rfl)
  rw [lg_entry_eq]
  generalize (lg_sl ([.ref a_this, .int x1, .int x2]) ++ List.replicate (3 - (lg_sl ([.ref a_this, .int x1, .int x2])).length) Slot.unset).toArray = ls at hl ⊢
  have hl : lv_has ls 3 [(0, .ref a_this), (1, .int x1), (2, .int x2)] := hl
  exact w_X8_keepsTurned_B0 C0 hA hK v_empty v_cut v_box x1 x2 s.heap [] ls hf hP hD va_S.rf (lv_sub hl [0, 1, 2] rfl)
/-! FloatBoxesModel.cutsBy(I)V -/
abbrev rm_X8_cutsBy : Room := { frames := 9, cells := 0, slots := 0, locals := 224 }
abbrev ww_X8_cutsBy (cI cM : ClassId) (a_this a_this_all a_this_past a_this_refused a_this_box a_this_row a_this_text a_this_numbers a_this_before : Nat) (v_states : Int32) (v_empty : Int32) (v_cut : Int32) (v_rowMany : Int32) (v_taken : Int32) (v_found : Int32) (v_textLong : Int32) (v_at : Int32) (v_stopped : Int32) (v_all : Nat → Int32) (v_box : Nat → Int32) : va_W := [(a_this, .inr (6, [.ref a_this_all, .ref a_this_past, .int v_states, .ref a_this_refused, .ref a_this_box, .int v_empty, .int v_cut, .ref a_this_row, .int v_rowMany, .int v_taken, .int v_found, .ref a_this_text, .int v_textLong, .int v_at, .ref a_this_numbers, .int v_stopped, .ref a_this_before])), (a_this_all, .inl (cI, 38, .inl v_all)), (a_this_box, .inl (cI, 12, .inl v_box))]
def f_X8_cutsBy (N : Nat) (v_all : Nat → Int32) (v_empty : Int32) (v_cut : Int32) (v_box : Nat → Int32) (x1 : Int32) : Option (Int32 × Int32 × (Nat → Int32)) :=
  o_b1 (f_X8_ruleAt v_all x1 1) (fun (r3 : Int32) =>
  o_b1 (f_X8_ruleAt v_all x1 2) (fun (r10 : Int32) =>
  o_b1 (f_X8_ruleAt v_all x1 3) (fun (r17 : Int32) =>
  o_b1 (f_X8_ruleAt v_all x1 0) (fun (r25 : Int32) =>
  if r25 = 0 then
    o_b3 (f_X8_cutsSum N v_empty v_cut v_box r3 r10 r17) (fun (v_empty_69 : Int32) (v_cut_69 : Int32) (v_box_69 : Nat → Int32) =>
    some (v_empty_69, v_cut_69, v_box_69))
  else
  if r25 = 1 then
    o_b3 (f_X8_cutsProduct N v_empty v_cut v_box r3 r10 r17) (fun (v_empty_80 : Int32) (v_cut_80 : Int32) (v_box_80 : Nat → Int32) =>
    some (v_empty_80, v_cut_80, v_box_80))
  else
  if r25 = 2 then
    o_b3 (f_X8_cutsMost v_empty v_cut v_box r3 r10 r17) (fun (v_empty_91 : Int32) (v_cut_91 : Int32) (v_box_91 : Nat → Int32) =>
    some (v_empty_91, v_cut_91, v_box_91))
  else
  if r25 = 3 then
    o_b3 (f_X8_cutsLess v_empty v_cut v_box r3 r10) (fun (v_empty_100 : Int32) (v_cut_100 : Int32) (v_box_100 : Nat → Int32) =>
    some (v_empty_100, v_cut_100, v_box_100))
  else
  if r25 = 4 then
    o_b3 (f_X8_keepsSame v_empty v_cut v_box r3 r10) (fun (v_empty_109 : Int32) (v_cut_109 : Int32) (v_box_109 : Nat → Int32) =>
    o_b3 (f_X8_keepsSame v_empty_109 v_cut_109 v_box_109 r10 r3) (fun (v_empty_115 : Int32) (v_cut_115 : Int32) (v_box_115 : Nat → Int32) =>
    some (v_empty_115, v_cut_115, v_box_115)))
  else
  o_b3 (f_X8_keepsTurned v_empty v_cut v_box r10 r3) (fun (v_empty_124 : Int32) (v_cut_124 : Int32) (v_box_124 : Nat → Int32) =>
  o_b3 (f_X8_keepsTurned v_empty_124 v_cut_124 v_box_124 r3 r10) (fun (v_empty_130 : Int32) (v_cut_130 : Int32) (v_box_130 : Nat → Int32) =>
  some (v_empty_130, v_cut_130, v_box_130)))))))
set_option maxHeartbeats 4000000 in
set_option maxRecDepth 100000 in
theorem w_X8_cutsBy_B0 {p : Program} {l : Launch} {e : Env} {s : State} {m : MethodId} {args : Array Value} {below : List Frame} {meth : Method} {c : Code} {D : va_G} {cI cM : ClassId} {A : Nat → Prop} {a_this a_this_all a_this_past a_this_refused a_this_box a_this_row a_this_text a_this_numbers a_this_before : Nat} {v_states : Int32} {v_rowMany : Int32} {v_taken : Int32} {v_found : Int32} {v_textLong : Int32} {v_at : Int32} {v_stopped : Int32} {N : Nat} {v_all : Nat → Int32} {o_empty : Int32} {o_cut : Int32} {o_box : Nat → Int32} (C0 : g_cx cX8_cutsBy none 5 RX8 wsX8_cutsBy p s m args meth c) (hA : ∀ q, s.heap.size ≤ q → A q) (hK : va_K D vwCl (g_tys cI cM) s) : ∀ (v_empty : Int32) (v_cut : Int32) (v_box : Nat → Int32) (x1 : Int32) (H : Heap) (locs : List Loc) (ls : Array Slot), f_X8_cutsBy N v_all v_empty v_cut v_box x1 = some (o_empty, o_cut, o_box) → va_P D vwCl (ww_X8_cutsBy cI cM a_this a_this_all a_this_past a_this_refused a_this_box a_this_row a_this_text a_this_numbers a_this_before v_states v_empty v_cut v_rowMany v_taken v_found v_textLong v_at v_stopped v_all v_box) H → va_D A (ww_X8_cutsBy cI cM a_this a_this_all a_this_past a_this_refused a_this_box a_this_row a_this_text a_this_numbers a_this_before v_states v_empty v_cut v_rowMany v_taken v_found v_textLong v_at v_stopped v_all v_box) → va_S A s.heap H locs → lv_has ls 5 [(0, .ref a_this), (1, .int x1)] → W p l e rm_X8_cutsBy s m args below meth c H locs 0 0 (MQ below (g_QV D (g_tys cI cM) A (ww_X8_cutsBy cI cM a_this a_this_all a_this_past a_this_refused a_this_box a_this_row a_this_text a_this_numbers a_this_before v_states o_empty o_cut v_rowMany v_taken v_found v_textLong v_at v_stopped v_all o_box)) args s 0 0 A) (F0 m 0 ls []) := by
  obtain ⟨hx, hb, hr, hml, hown, hts, hlocks⟩ := id C0
  intro v_empty v_cut v_box x1 H locs ls hf hP hD hS hl
  unfold f_X8_cutsBy at hf
  refine lv_aload_n hx hb dX8_cutsBy_0 rfl (lv_at hl 0 rfl) ?_
  refine lv_iload_n hx hb dX8_cutsBy_1 rfl (lv_at hl 1 rfl) ?_
  refine lv_iconst (v := 1) hx hb dX8_cutsBy_2 (by decide) ?_
  obtain ⟨r3, hg3, hf⟩ := o_b1_go hf
  refine g_callVi (wn := (ww_X8_cutsBy cI cM a_this a_this_all a_this_past a_this_refused a_this_box a_this_row a_this_text a_this_numbers a_this_before v_states v_empty v_cut v_rowMany v_taken v_found v_textLong v_at v_stopped v_all v_box)) (rest := []) ⟨hx, hb, hml, hown, hts⟩ (c_X8_ruleAt l D cI cM a_this a_this_all a_this_past a_this_refused a_this_box a_this_row a_this_text a_this_numbers a_this_before H.size v_states v_empty v_cut v_rowMany v_taken v_found v_textLong v_at v_stopped v_all hg3) (cwV 2 hts gX8_cutsBy_X8_ruleAt rfl rfl rfl (by decide +kernel) ⟨Nat.le_of_ble_eq_true rfl, Nat.le_of_ble_eq_true rfl⟩) hK hP hD hS hA [0, 1] [2] [1, 2, 0] rfl rfl rfl rfl rfl rfl (by decide) rfl rfl rfl hl.1 rfl (Nat.le_of_ble_eq_true rfl) dX8_cutsBy_3 (fun H locs hP hD hS => ?_)
  refine lv_istore_n (lv' := [(2, .int r3), (0, .ref a_this), (1, .int x1)]) hx hb dX8_cutsBy_6 rfl hl (by decide) rfl (fun ls hl => ?_)
  refine lv_aload_n hx hb dX8_cutsBy_7 rfl (lv_at hl 1 rfl) ?_
  refine lv_iload_n hx hb dX8_cutsBy_8 rfl (lv_at hl 2 rfl) ?_
  refine lv_iconst (v := 2) hx hb dX8_cutsBy_9 (by decide) ?_
  obtain ⟨r10, hg10, hf⟩ := o_b1_go hf
  refine g_callVi (wn := (ww_X8_cutsBy cI cM a_this a_this_all a_this_past a_this_refused a_this_box a_this_row a_this_text a_this_numbers a_this_before v_states v_empty v_cut v_rowMany v_taken v_found v_textLong v_at v_stopped v_all v_box)) (rest := []) ⟨hx, hb, hml, hown, hts⟩ (c_X8_ruleAt l D cI cM a_this a_this_all a_this_past a_this_refused a_this_box a_this_row a_this_text a_this_numbers a_this_before H.size v_states v_empty v_cut v_rowMany v_taken v_found v_textLong v_at v_stopped v_all hg10) (cwV 2 hts gX8_cutsBy_X8_ruleAt rfl rfl rfl (by decide +kernel) ⟨Nat.le_of_ble_eq_true rfl, Nat.le_of_ble_eq_true rfl⟩) hK hP hD hS hA [0, 1] [2] [1, 2, 0] rfl rfl rfl rfl rfl rfl (by decide) rfl rfl rfl hl.1 rfl (Nat.le_of_ble_eq_true rfl) dX8_cutsBy_10 (fun H locs hP hD hS => ?_)
  refine lv_istore_n (lv' := [(3, .int r10), (2, .int r3), (0, .ref a_this), (1, .int x1)]) hx hb dX8_cutsBy_13 rfl hl (by decide) rfl (fun ls hl => ?_)
  refine lv_aload_n hx hb dX8_cutsBy_14 rfl (lv_at hl 2 rfl) ?_
  refine lv_iload_n hx hb dX8_cutsBy_15 rfl (lv_at hl 3 rfl) ?_
  refine lv_iconst (v := 3) hx hb dX8_cutsBy_16 (by decide) ?_
  obtain ⟨r17, hg17, hf⟩ := o_b1_go hf
  refine g_callVi (wn := (ww_X8_cutsBy cI cM a_this a_this_all a_this_past a_this_refused a_this_box a_this_row a_this_text a_this_numbers a_this_before v_states v_empty v_cut v_rowMany v_taken v_found v_textLong v_at v_stopped v_all v_box)) (rest := []) ⟨hx, hb, hml, hown, hts⟩ (c_X8_ruleAt l D cI cM a_this a_this_all a_this_past a_this_refused a_this_box a_this_row a_this_text a_this_numbers a_this_before H.size v_states v_empty v_cut v_rowMany v_taken v_found v_textLong v_at v_stopped v_all hg17) (cwV 2 hts gX8_cutsBy_X8_ruleAt rfl rfl rfl (by decide +kernel) ⟨Nat.le_of_ble_eq_true rfl, Nat.le_of_ble_eq_true rfl⟩) hK hP hD hS hA [0, 1] [2] [1, 2, 0] rfl rfl rfl rfl rfl rfl (by decide) rfl rfl rfl hl.1 rfl (Nat.le_of_ble_eq_true rfl) dX8_cutsBy_17 (fun H locs hP hD hS => ?_)
  refine lv_istore (lv' := [(4, .int r17), (3, .int r10), (2, .int r3), (0, .ref a_this), (1, .int x1)]) hx hb dX8_cutsBy_20 hl (by decide) rfl (fun ls hl => ?_)
  refine lv_aload_n hx hb dX8_cutsBy_22 rfl (lv_at hl 3 rfl) ?_
  refine lv_iload_n hx hb dX8_cutsBy_23 rfl (lv_at hl 4 rfl) ?_
  refine lv_iconst (v := 0) hx hb dX8_cutsBy_24 (by decide) ?_
  obtain ⟨r25, hg25, hf⟩ := o_b1_go hf
  refine g_callVi (wn := (ww_X8_cutsBy cI cM a_this a_this_all a_this_past a_this_refused a_this_box a_this_row a_this_text a_this_numbers a_this_before v_states v_empty v_cut v_rowMany v_taken v_found v_textLong v_at v_stopped v_all v_box)) (rest := []) ⟨hx, hb, hml, hown, hts⟩ (c_X8_ruleAt l D cI cM a_this a_this_all a_this_past a_this_refused a_this_box a_this_row a_this_text a_this_numbers a_this_before H.size v_states v_empty v_cut v_rowMany v_taken v_found v_textLong v_at v_stopped v_all hg25) (cwV 2 hts gX8_cutsBy_X8_ruleAt rfl rfl rfl (by decide +kernel) ⟨Nat.le_of_ble_eq_true rfl, Nat.le_of_ble_eq_true rfl⟩) hK hP hD hS hA [0, 1] [2] [1, 2, 0] rfl rfl rfl rfl rfl rfl (by decide) rfl rfl rfl hl.1 rfl (Nat.le_of_ble_eq_true rfl) dX8_cutsBy_25 (fun H locs hP hD hS => ?_)
  by_cases c28_0 : r25 = 0
  · replace hf := o_t c28_0 hf
    refine lv_tableIn (off := 36) (tgt := 64) hx hb dX8_cutsBy_28 (by rw [o_sw (a := 0) rfl c28_0]; decide) (by rw [o_sw (a := 0) rfl c28_0]; decide) (by rw [o_sw (a := 0) rfl c28_0]; rfl) (by decide) ?_
    refine lv_aload_n hx hb dX8_cutsBy_64 rfl (lv_at hl 3 rfl) ?_
    refine lv_iload_n hx hb dX8_cutsBy_65 rfl (lv_at hl 2 rfl) ?_
    refine lv_iload_n hx hb dX8_cutsBy_66 rfl (lv_at hl 1 rfl) ?_
    refine lv_iload hx hb dX8_cutsBy_67 (lv_at hl 0 rfl) ?_
    obtain ⟨v_empty_69, v_cut_69, v_box_69, hg69, hf⟩ := o_b3_go hf
    refine g_callVv (wn := (ww_X8_cutsBy cI cM a_this a_this_all a_this_past a_this_refused a_this_box a_this_row a_this_text a_this_numbers a_this_before v_states v_empty_69 v_cut_69 v_rowMany v_taken v_found v_textLong v_at v_stopped v_all v_box_69)) (rest := []) ⟨hx, hb, hml, hown, hts⟩ (c_X8_cutsSum l D cI cM a_this a_this_all a_this_past a_this_refused a_this_box a_this_row a_this_text a_this_numbers a_this_before H.size v_states v_empty v_cut v_rowMany v_taken v_found v_textLong v_at v_stopped v_box hg69) (cwV 3 hts gX8_cutsBy_X8_cutsSum rfl rfl rfl (by decide +kernel) ⟨Nat.le_of_ble_eq_true rfl, Nat.le_of_ble_eq_true rfl⟩) hK hP hD hS hA [0, 2] [1] [1, 0, 2] rfl rfl rfl rfl rfl rfl (by decide) rfl rfl rfl hl.1 rfl (Nat.le_of_ble_eq_true rfl) dX8_cutsBy_69 (fun H locs hP hD hS => ?_)
    refine lv_goto (tgt := 133) hx hb dX8_cutsBy_72 (by decide) ?_
    obtain ⟨q0, y0⟩ := o_rp hf
    obtain ⟨q1, y1⟩ := o_rp y0
    have q2 := Option.some.inj y1
    subst q0 q1 q2
    exact g_vret hx hb hr hlocks hP hD hK hS dX8_cutsBy_133
  replace hf := o_f c28_0 hf
  by_cases c28_1 : r25 = 1
  · replace hf := o_t c28_1 hf
    refine lv_tableIn (off := 47) (tgt := 75) hx hb dX8_cutsBy_28 (by rw [o_sw (a := 1) rfl c28_1]; decide) (by rw [o_sw (a := 1) rfl c28_1]; decide) (by rw [o_sw (a := 1) rfl c28_1]; rfl) (by decide) ?_
    refine lv_aload_n hx hb dX8_cutsBy_75 rfl (lv_at hl 3 rfl) ?_
    refine lv_iload_n hx hb dX8_cutsBy_76 rfl (lv_at hl 2 rfl) ?_
    refine lv_iload_n hx hb dX8_cutsBy_77 rfl (lv_at hl 1 rfl) ?_
    refine lv_iload hx hb dX8_cutsBy_78 (lv_at hl 0 rfl) ?_
    obtain ⟨v_empty_80, v_cut_80, v_box_80, hg80, hf⟩ := o_b3_go hf
    refine g_callVv (wn := (ww_X8_cutsBy cI cM a_this a_this_all a_this_past a_this_refused a_this_box a_this_row a_this_text a_this_numbers a_this_before v_states v_empty_80 v_cut_80 v_rowMany v_taken v_found v_textLong v_at v_stopped v_all v_box_80)) (rest := []) ⟨hx, hb, hml, hown, hts⟩ (c_X8_cutsProduct l D cI cM a_this a_this_all a_this_past a_this_refused a_this_box a_this_row a_this_text a_this_numbers a_this_before H.size v_states v_empty v_cut v_rowMany v_taken v_found v_textLong v_at v_stopped v_box hg80) (cwV 3 hts gX8_cutsBy_X8_cutsProduct rfl rfl rfl (by decide +kernel) ⟨Nat.le_of_ble_eq_true rfl, Nat.le_of_ble_eq_true rfl⟩) hK hP hD hS hA [0, 2] [1] [1, 0, 2] rfl rfl rfl rfl rfl rfl (by decide) rfl rfl rfl hl.1 rfl (Nat.le_of_ble_eq_true rfl) dX8_cutsBy_80 (fun H locs hP hD hS => ?_)
    refine lv_goto (tgt := 133) hx hb dX8_cutsBy_83 (by decide) ?_
    obtain ⟨q0, y0⟩ := o_rp hf
    obtain ⟨q1, y1⟩ := o_rp y0
    have q2 := Option.some.inj y1
    subst q0 q1 q2
    exact g_vret hx hb hr hlocks hP hD hK hS dX8_cutsBy_133
  replace hf := o_f c28_1 hf
  by_cases c28_2 : r25 = 2
  · replace hf := o_t c28_2 hf
    refine lv_tableIn (off := 58) (tgt := 86) hx hb dX8_cutsBy_28 (by rw [o_sw (a := 2) rfl c28_2]; decide) (by rw [o_sw (a := 2) rfl c28_2]; decide) (by rw [o_sw (a := 2) rfl c28_2]; rfl) (by decide) ?_
    refine lv_aload_n hx hb dX8_cutsBy_86 rfl (lv_at hl 3 rfl) ?_
    refine lv_iload_n hx hb dX8_cutsBy_87 rfl (lv_at hl 2 rfl) ?_
    refine lv_iload_n hx hb dX8_cutsBy_88 rfl (lv_at hl 1 rfl) ?_
    refine lv_iload hx hb dX8_cutsBy_89 (lv_at hl 0 rfl) ?_
    obtain ⟨v_empty_91, v_cut_91, v_box_91, hg91, hf⟩ := o_b3_go hf
    refine g_callVv (wn := (ww_X8_cutsBy cI cM a_this a_this_all a_this_past a_this_refused a_this_box a_this_row a_this_text a_this_numbers a_this_before v_states v_empty_91 v_cut_91 v_rowMany v_taken v_found v_textLong v_at v_stopped v_all v_box_91)) (rest := []) ⟨hx, hb, hml, hown, hts⟩ (c_X8_cutsMost l D cI cM a_this a_this_all a_this_past a_this_refused a_this_box a_this_row a_this_text a_this_numbers a_this_before H.size v_states v_empty v_cut v_rowMany v_taken v_found v_textLong v_at v_stopped v_box hg91) (cwV 3 hts gX8_cutsBy_X8_cutsMost rfl rfl rfl (by decide +kernel) ⟨Nat.le_of_ble_eq_true rfl, Nat.le_of_ble_eq_true rfl⟩) hK hP hD hS hA [0, 2] [1] [1, 0, 2] rfl rfl rfl rfl rfl rfl (by decide) rfl rfl rfl hl.1 rfl (Nat.le_of_ble_eq_true rfl) dX8_cutsBy_91 (fun H locs hP hD hS => ?_)
    refine lv_goto (tgt := 133) hx hb dX8_cutsBy_94 (by decide) ?_
    obtain ⟨q0, y0⟩ := o_rp hf
    obtain ⟨q1, y1⟩ := o_rp y0
    have q2 := Option.some.inj y1
    subst q0 q1 q2
    exact g_vret hx hb hr hlocks hP hD hK hS dX8_cutsBy_133
  replace hf := o_f c28_2 hf
  by_cases c28_3 : r25 = 3
  · replace hf := o_t c28_3 hf
    refine lv_tableIn (off := 69) (tgt := 97) hx hb dX8_cutsBy_28 (by rw [o_sw (a := 3) rfl c28_3]; decide) (by rw [o_sw (a := 3) rfl c28_3]; decide) (by rw [o_sw (a := 3) rfl c28_3]; rfl) (by decide) ?_
    refine lv_aload_n hx hb dX8_cutsBy_97 rfl (lv_at hl 3 rfl) ?_
    refine lv_iload_n hx hb dX8_cutsBy_98 rfl (lv_at hl 2 rfl) ?_
    refine lv_iload_n hx hb dX8_cutsBy_99 rfl (lv_at hl 1 rfl) ?_
    obtain ⟨v_empty_100, v_cut_100, v_box_100, hg100, hf⟩ := o_b3_go hf
    refine g_callVv (wn := (ww_X8_cutsBy cI cM a_this a_this_all a_this_past a_this_refused a_this_box a_this_row a_this_text a_this_numbers a_this_before v_states v_empty_100 v_cut_100 v_rowMany v_taken v_found v_textLong v_at v_stopped v_all v_box_100)) (rest := []) ⟨hx, hb, hml, hown, hts⟩ (c_X8_cutsLess l D cI cM a_this a_this_all a_this_past a_this_refused a_this_box a_this_row a_this_text a_this_numbers a_this_before H.size v_states v_empty v_cut v_rowMany v_taken v_found v_textLong v_at v_stopped v_box hg100) (cwV 2 hts gX8_cutsBy_X8_cutsLess rfl rfl rfl (by decide +kernel) ⟨Nat.le_of_ble_eq_true rfl, Nat.le_of_ble_eq_true rfl⟩) hK hP hD hS hA [0, 2] [1] [1, 0, 2] rfl rfl rfl rfl rfl rfl (by decide) rfl rfl rfl hl.1 rfl (Nat.le_of_ble_eq_true rfl) dX8_cutsBy_100 (fun H locs hP hD hS => ?_)
    refine lv_goto (tgt := 133) hx hb dX8_cutsBy_103 (by decide) ?_
    obtain ⟨q0, y0⟩ := o_rp hf
    obtain ⟨q1, y1⟩ := o_rp y0
    have q2 := Option.some.inj y1
    subst q0 q1 q2
    exact g_vret hx hb hr hlocks hP hD hK hS dX8_cutsBy_133
  replace hf := o_f c28_3 hf
  by_cases c28_4 : r25 = 4
  · replace hf := o_t c28_4 hf
    refine lv_tableIn (off := 78) (tgt := 106) hx hb dX8_cutsBy_28 (by rw [o_sw (a := 4) rfl c28_4]; decide) (by rw [o_sw (a := 4) rfl c28_4]; decide) (by rw [o_sw (a := 4) rfl c28_4]; rfl) (by decide) ?_
    refine lv_aload_n hx hb dX8_cutsBy_106 rfl (lv_at hl 3 rfl) ?_
    refine lv_iload_n hx hb dX8_cutsBy_107 rfl (lv_at hl 2 rfl) ?_
    refine lv_iload_n hx hb dX8_cutsBy_108 rfl (lv_at hl 1 rfl) ?_
    obtain ⟨v_empty_109, v_cut_109, v_box_109, hg109, hf⟩ := o_b3_go hf
    refine g_callVv (wn := (ww_X8_cutsBy cI cM a_this a_this_all a_this_past a_this_refused a_this_box a_this_row a_this_text a_this_numbers a_this_before v_states v_empty_109 v_cut_109 v_rowMany v_taken v_found v_textLong v_at v_stopped v_all v_box_109)) (rest := []) ⟨hx, hb, hml, hown, hts⟩ (c_X8_keepsSame l D cI cM a_this a_this_all a_this_past a_this_refused a_this_box a_this_row a_this_text a_this_numbers a_this_before H.size v_states v_empty v_cut v_rowMany v_taken v_found v_textLong v_at v_stopped v_box hg109) (cwV 2 hts gX8_cutsBy_X8_keepsSame rfl rfl rfl (by decide +kernel) ⟨Nat.le_of_ble_eq_true rfl, Nat.le_of_ble_eq_true rfl⟩) hK hP hD hS hA [0, 2] [1] [1, 0, 2] rfl rfl rfl rfl rfl rfl (by decide) rfl rfl rfl hl.1 rfl (Nat.le_of_ble_eq_true rfl) dX8_cutsBy_109 (fun H locs hP hD hS => ?_)
    refine lv_aload_n hx hb dX8_cutsBy_112 rfl (lv_at hl 3 rfl) ?_
    refine lv_iload_n hx hb dX8_cutsBy_113 rfl (lv_at hl 1 rfl) ?_
    refine lv_iload_n hx hb dX8_cutsBy_114 rfl (lv_at hl 2 rfl) ?_
    obtain ⟨v_empty_115, v_cut_115, v_box_115, hg115, hf⟩ := o_b3_go hf
    refine g_callVv (wn := (ww_X8_cutsBy cI cM a_this a_this_all a_this_past a_this_refused a_this_box a_this_row a_this_text a_this_numbers a_this_before v_states v_empty_115 v_cut_115 v_rowMany v_taken v_found v_textLong v_at v_stopped v_all v_box_115)) (rest := []) ⟨hx, hb, hml, hown, hts⟩ (c_X8_keepsSame l D cI cM a_this a_this_all a_this_past a_this_refused a_this_box a_this_row a_this_text a_this_numbers a_this_before H.size v_states v_empty_109 v_cut_109 v_rowMany v_taken v_found v_textLong v_at v_stopped v_box_109 hg115) (cwV 2 hts gX8_cutsBy_X8_keepsSame rfl rfl rfl (by decide +kernel) ⟨Nat.le_of_ble_eq_true rfl, Nat.le_of_ble_eq_true rfl⟩) hK hP hD hS hA [0, 2] [1] [1, 0, 2] rfl rfl rfl rfl rfl rfl (by decide) rfl rfl rfl hl.1 rfl (Nat.le_of_ble_eq_true rfl) dX8_cutsBy_115 (fun H locs hP hD hS => ?_)
    refine lv_goto (tgt := 133) hx hb dX8_cutsBy_118 (by decide) ?_
    obtain ⟨q0, y0⟩ := o_rp hf
    obtain ⟨q1, y1⟩ := o_rp y0
    have q2 := Option.some.inj y1
    subst q0 q1 q2
    exact g_vret hx hb hr hlocks hP hD hK hS dX8_cutsBy_133
  replace hf := o_f c28_4 hf
  refine lv_tableOut (tgt := 121) hx hb dX8_cutsBy_28 (by have n0 := lv_neT (a := 0) c28_0 rfl; have n1 := lv_neT (a := 1) c28_1 rfl; have n2 := lv_neT (a := 2) c28_2 rfl; have n3 := lv_neT (a := 3) c28_3 rfl; have n4 := lv_neT (a := 4) c28_4 rfl; omega) (by decide) ?_
  refine lv_aload_n hx hb dX8_cutsBy_121 rfl (lv_at hl 3 rfl) ?_
  refine lv_iload_n hx hb dX8_cutsBy_122 rfl (lv_at hl 1 rfl) ?_
  refine lv_iload_n hx hb dX8_cutsBy_123 rfl (lv_at hl 2 rfl) ?_
  obtain ⟨v_empty_124, v_cut_124, v_box_124, hg124, hf⟩ := o_b3_go hf
  refine g_callVv (wn := (ww_X8_cutsBy cI cM a_this a_this_all a_this_past a_this_refused a_this_box a_this_row a_this_text a_this_numbers a_this_before v_states v_empty_124 v_cut_124 v_rowMany v_taken v_found v_textLong v_at v_stopped v_all v_box_124)) (rest := []) ⟨hx, hb, hml, hown, hts⟩ (c_X8_keepsTurned l D cI cM a_this a_this_all a_this_past a_this_refused a_this_box a_this_row a_this_text a_this_numbers a_this_before H.size v_states v_empty v_cut v_rowMany v_taken v_found v_textLong v_at v_stopped v_box hg124) (cwV 2 hts gX8_cutsBy_X8_keepsTurned rfl rfl rfl (by decide +kernel) ⟨Nat.le_of_ble_eq_true rfl, Nat.le_of_ble_eq_true rfl⟩) hK hP hD hS hA [0, 2] [1] [1, 0, 2] rfl rfl rfl rfl rfl rfl (by decide) rfl rfl rfl hl.1 rfl (Nat.le_of_ble_eq_true rfl) dX8_cutsBy_124 (fun H locs hP hD hS => ?_)
  refine lv_aload_n hx hb dX8_cutsBy_127 rfl (lv_at hl 3 rfl) ?_
  refine lv_iload_n hx hb dX8_cutsBy_128 rfl (lv_at hl 2 rfl) ?_
  refine lv_iload_n hx hb dX8_cutsBy_129 rfl (lv_at hl 1 rfl) ?_
  obtain ⟨v_empty_130, v_cut_130, v_box_130, hg130, hf⟩ := o_b3_go hf
  refine g_callVv (wn := (ww_X8_cutsBy cI cM a_this a_this_all a_this_past a_this_refused a_this_box a_this_row a_this_text a_this_numbers a_this_before v_states v_empty_130 v_cut_130 v_rowMany v_taken v_found v_textLong v_at v_stopped v_all v_box_130)) (rest := []) ⟨hx, hb, hml, hown, hts⟩ (c_X8_keepsTurned l D cI cM a_this a_this_all a_this_past a_this_refused a_this_box a_this_row a_this_text a_this_numbers a_this_before H.size v_states v_empty_124 v_cut_124 v_rowMany v_taken v_found v_textLong v_at v_stopped v_box_124 hg130) (cwV 2 hts gX8_cutsBy_X8_keepsTurned rfl rfl rfl (by decide +kernel) ⟨Nat.le_of_ble_eq_true rfl, Nat.le_of_ble_eq_true rfl⟩) hK hP hD hS hA [0, 2] [1] [1, 0, 2] rfl rfl rfl rfl rfl rfl (by decide) rfl rfl rfl hl.1 rfl (Nat.le_of_ble_eq_true rfl) dX8_cutsBy_130 (fun H locs hP hD hS => ?_)
  obtain ⟨q0, y0⟩ := o_rp hf
  obtain ⟨q1, y1⟩ := o_rp y0
  have q2 := Option.some.inj y1
  subst q0 q1 q2
  exact g_vret hx hb hr hlocks hP hD hK hS dX8_cutsBy_133
set_option maxHeartbeats 4000000 in
set_option maxRecDepth 100000 in
theorem c_X8_cutsBy (l : Launch) (D : va_G) (cI cM : ClassId) (a_this a_this_all a_this_past a_this_refused a_this_box a_this_row a_this_text a_this_numbers a_this_before : Nat) (sz : Nat) (v_states : Int32) (v_empty : Int32) (v_cut : Int32) (v_rowMany : Int32) (v_taken : Int32) (v_found : Int32) (v_textLong : Int32) (v_at : Int32) (v_stopped : Int32) (v_all : Nat → Int32) (v_box : Nat → Int32) {N : Nat} {x1 : Int32} {o_empty : Int32} {o_cut : Int32} {o_box : Nat → Int32} (hf : f_X8_cutsBy N v_all v_empty v_cut v_box x1 = some (o_empty, o_cut, o_box)) : Met l yX8_cutsBy wsX8_cutsBy rm_X8_cutsBy (g_Pc D (g_tys cI cM) (ww_X8_cutsBy cI cM a_this a_this_all a_this_past a_this_refused a_this_box a_this_row a_this_text a_this_numbers a_this_before v_states v_empty v_cut v_rowMany v_taken v_found v_textLong v_at v_stopped v_all v_box) sz [.ref a_this, .int x1]) (g_QV D (g_tys cI cM) (va_A (ww_X8_cutsBy cI cM a_this a_this_all a_this_past a_this_refused a_this_box a_this_row a_this_text a_this_numbers a_this_before v_states v_empty v_cut v_rowMany v_taken v_found v_textLong v_at v_stopped v_all v_box) sz) (ww_X8_cutsBy cI cM a_this a_this_all a_this_past a_this_refused a_this_box a_this_row a_this_text a_this_numbers a_this_before v_states o_empty o_cut v_rowMany v_taken v_found v_textLong v_at v_stopped v_all o_box)) 0 0 (va_A (ww_X8_cutsBy cI cM a_this a_this_all a_this_past a_this_refused a_this_box a_this_row a_this_text a_this_numbers a_this_before v_states v_empty v_cut v_rowMany v_taken v_found v_textLong v_at v_stopped v_all v_box) sz) := by
  refine g_met (cc := cX8_cutsBy) (maxL := 5) (ret := none) (Qc := fun D A => g_QV D (g_tys cI cM) A (ww_X8_cutsBy cI cM a_this a_this_all a_this_past a_this_refused a_this_box a_this_row a_this_text a_this_numbers a_this_before v_states o_empty o_cut v_rowMany v_taken v_found v_textLong v_at v_stopped v_all o_box)) (by decide) rfl ?_
  intro p e s m below meth c A C0 hA hK hP hD
  have hl := lv_entry ([.ref a_this, .int x1]) (n := 5) (Nat.le_of_ble_eq_true rfl)
  rw [lg_entry_eq]
  generalize (lg_sl ([.ref a_this, .int x1]) ++ List.replicate (5 - (lg_sl ([.ref a_this, .int x1])).length) Slot.unset).toArray = ls at hl ⊢
  have hl : lv_has ls 5 [(0, .ref a_this), (1, .int x1)] := hl
  exact w_X8_cutsBy_B0 C0 hA hK v_empty v_cut v_box x1 s.heap [] ls hf hP hD va_S.rf (lv_sub hl [0, 1] rfl)
/-! FloatBoxesModel.cutsAll()I -/
abbrev rm_X8_cutsAll : Room := { frames := 10, cells := 0, slots := 0, locals := 248 }
abbrev ww_X8_cutsAll (cI cM : ClassId) (a_this a_this_all a_this_past a_this_refused a_this_box a_this_row a_this_text a_this_numbers a_this_before : Nat) (v_states : Int32) (v_empty : Int32) (v_cut : Int32) (v_rowMany : Int32) (v_taken : Int32) (v_found : Int32) (v_textLong : Int32) (v_at : Int32) (v_stopped : Int32) (v_all : Nat → Int32) (v_box : Nat → Int32) : va_W := [(a_this, .inr (6, [.ref a_this_all, .ref a_this_past, .int v_states, .ref a_this_refused, .ref a_this_box, .int v_empty, .int v_cut, .ref a_this_row, .int v_rowMany, .int v_taken, .int v_found, .ref a_this_text, .int v_textLong, .int v_at, .ref a_this_numbers, .int v_stopped, .ref a_this_before])), (a_this_all, .inl (cI, 38, .inl v_all)), (a_this_box, .inl (cI, 12, .inl v_box))]
def f_X8_cutsAll_B60 (N : Nat) (v_all : Nat → Int32) (k7 : Int32 → Int32 → (Nat → Int32) → Int32 → Option (Int32 × Int32 × Int32 × (Nat → Int32))) (v_empty : Int32) (v_cut : Int32) (v_box : Nat → Int32) (x1 : Int32) : Option (Int32 × Int32 × Int32 × (Nat → Int32)) :=
  k7 v_empty v_cut v_box (x1 + 1)
set_option maxHeartbeats 4000000 in
set_option maxRecDepth 100000 in
theorem w_X8_cutsAll_B60 {p : Program} {l : Launch} {e : Env} {s : State} {m : MethodId} {args : Array Value} {below : List Frame} {meth : Method} {c : Code} {D : va_G} {cI cM : ClassId} {A : Nat → Prop} {a_this a_this_all a_this_past a_this_refused a_this_box a_this_row a_this_text a_this_numbers a_this_before : Nat} {v_states : Int32} {v_rowMany : Int32} {v_taken : Int32} {v_found : Int32} {v_textLong : Int32} {v_at : Int32} {v_stopped : Int32} {N : Nat} {v_all : Nat → Int32} {r : Int32} {o_empty : Int32} {o_cut : Int32} {o_box : Nat → Int32} (C0 : g_cx cX8_cutsAll (some .int) 3 RX8 wsX8_cutsAll p s m args meth c) (hA : ∀ q, s.heap.size ≤ q → A q) (hK : va_K D vwCl (g_tys cI cM) s) (k7 : Int32 → Int32 → (Nat → Int32) → Int32 → Option (Int32 × Int32 × Int32 × (Nat → Int32))) (hk7 : ∀ (v_empty : Int32) (v_cut : Int32) (v_box : Nat → Int32) (x1 : Int32) (H : Heap) (locs : List Loc) (ls : Array Slot), k7 v_empty v_cut v_box x1 = some (r, o_empty, o_cut, o_box) → va_P D vwCl (ww_X8_cutsAll cI cM a_this a_this_all a_this_past a_this_refused a_this_box a_this_row a_this_text a_this_numbers a_this_before v_states v_empty v_cut v_rowMany v_taken v_found v_textLong v_at v_stopped v_all v_box) H → va_D A (ww_X8_cutsAll cI cM a_this a_this_all a_this_past a_this_refused a_this_box a_this_row a_this_text a_this_numbers a_this_before v_states v_empty v_cut v_rowMany v_taken v_found v_textLong v_at v_stopped v_all v_box) → va_S A s.heap H locs → lv_has ls 3 [(0, .ref a_this), (1, .int x1)] → W p l e rm_X8_cutsAll s m args below meth c H locs 0 0 (MQ below (g_QI D (g_tys cI cM) A (ww_X8_cutsAll cI cM a_this a_this_all a_this_past a_this_refused a_this_box a_this_row a_this_text a_this_numbers a_this_before v_states o_empty o_cut v_rowMany v_taken v_found v_textLong v_at v_stopped v_all o_box) r) args s 0 0 A) (F0 m 7 ls [])) : ∀ (v_empty : Int32) (v_cut : Int32) (v_box : Nat → Int32) (x1 : Int32) (H : Heap) (locs : List Loc) (ls : Array Slot), f_X8_cutsAll_B60 N v_all k7 v_empty v_cut v_box x1 = some (r, o_empty, o_cut, o_box) → va_P D vwCl (ww_X8_cutsAll cI cM a_this a_this_all a_this_past a_this_refused a_this_box a_this_row a_this_text a_this_numbers a_this_before v_states v_empty v_cut v_rowMany v_taken v_found v_textLong v_at v_stopped v_all v_box) H → va_D A (ww_X8_cutsAll cI cM a_this a_this_all a_this_past a_this_refused a_this_box a_this_row a_this_text a_this_numbers a_this_before v_states v_empty v_cut v_rowMany v_taken v_found v_textLong v_at v_stopped v_all v_box) → va_S A s.heap H locs → lv_has ls 3 [(0, .ref a_this), (1, .int x1)] → W p l e rm_X8_cutsAll s m args below meth c H locs 0 0 (MQ below (g_QI D (g_tys cI cM) A (ww_X8_cutsAll cI cM a_this a_this_all a_this_past a_this_refused a_this_box a_this_row a_this_text a_this_numbers a_this_before v_states o_empty o_cut v_rowMany v_taken v_found v_textLong v_at v_stopped v_all o_box) r) args s 0 0 A) (F0 m 60 ls []) := by
  obtain ⟨hx, hb, hr, hml, hown, hts, hlocks⟩ := id C0
  intro v_empty v_cut v_box x1 H locs ls hf hP hD hS hl
  unfold f_X8_cutsAll_B60 at hf
  refine lv_iinc (v := x1 + 1) (lv' := [(1, .int (x1 + 1)), (0, .ref a_this)]) hx hb dX8_cutsAll_60 hl (k := 1) rfl rfl (by decide) rfl (fun ls hl => ?_)
  refine lv_goto (tgt := 7) hx hb dX8_cutsAll_63 (by decide) ?_
  exact hk7 v_empty v_cut v_box (x1 + 1) H locs ls hf hP hD hS (lv_sub hl [1, 0] rfl)
def f_X8_cutsAll_C34 (N : Nat) (v_all : Nat → Int32) (k7 : Int32 → Int32 → (Nat → Int32) → Int32 → Option (Int32 × Int32 × Int32 × (Nat → Int32))) (k34 : Int32 → Int32 → (Nat → Int32) → Int32 → Int32 → Option (Int32 × Int32 × Int32 × (Nat → Int32))) (v_empty : Int32) (v_cut : Int32) (v_box : Nat → Int32) (x1 : Int32) (x2 : Int32) : Option (Int32 × Int32 × Int32 × (Nat → Int32)) :=
  o_b1 (f_X8_rules v_all) (fun (r36 : Int32) =>
  if r36 ≤ x2 then
    f_X8_cutsAll_B60 N v_all k7 v_empty v_cut v_box x1
  else
    if v_empty = 0 then
      o_b3 (f_X8_cutsBy N v_all v_empty v_cut v_box x2) (fun (v_empty_51 : Int32) (v_cut_51 : Int32) (v_box_51 : Nat → Int32) =>
      k34 v_empty_51 v_cut_51 v_box_51 x1 (x2 + 1))
    else
      f_X8_cutsAll_B60 N v_all k7 v_empty v_cut v_box x1)
def f_X8_cutsAll_L34 (N : Nat) (v_all : Nat → Int32) (k7 : Int32 → Int32 → (Nat → Int32) → Int32 → Option (Int32 × Int32 × Int32 × (Nat → Int32))) : Nat → Int32 → Int32 → (Nat → Int32) → Int32 → Int32 → Option (Int32 × Int32 × Int32 × (Nat → Int32))
  | 0 => fun _ _ _ _ _ => none
  | n + 1 => f_X8_cutsAll_C34 N v_all k7 (f_X8_cutsAll_L34 N v_all k7 n)
set_option maxHeartbeats 4000000 in
set_option maxRecDepth 100000 in
theorem w_X8_cutsAll_C34 {p : Program} {l : Launch} {e : Env} {s : State} {m : MethodId} {args : Array Value} {below : List Frame} {meth : Method} {c : Code} {D : va_G} {cI cM : ClassId} {A : Nat → Prop} {a_this a_this_all a_this_past a_this_refused a_this_box a_this_row a_this_text a_this_numbers a_this_before : Nat} {v_states : Int32} {v_rowMany : Int32} {v_taken : Int32} {v_found : Int32} {v_textLong : Int32} {v_at : Int32} {v_stopped : Int32} {N : Nat} {v_all : Nat → Int32} {r : Int32} {o_empty : Int32} {o_cut : Int32} {o_box : Nat → Int32} (C0 : g_cx cX8_cutsAll (some .int) 3 RX8 wsX8_cutsAll p s m args meth c) (hA : ∀ q, s.heap.size ≤ q → A q) (hK : va_K D vwCl (g_tys cI cM) s) (k7 : Int32 → Int32 → (Nat → Int32) → Int32 → Option (Int32 × Int32 × Int32 × (Nat → Int32))) (hk7 : ∀ (v_empty : Int32) (v_cut : Int32) (v_box : Nat → Int32) (x1 : Int32) (H : Heap) (locs : List Loc) (ls : Array Slot), k7 v_empty v_cut v_box x1 = some (r, o_empty, o_cut, o_box) → va_P D vwCl (ww_X8_cutsAll cI cM a_this a_this_all a_this_past a_this_refused a_this_box a_this_row a_this_text a_this_numbers a_this_before v_states v_empty v_cut v_rowMany v_taken v_found v_textLong v_at v_stopped v_all v_box) H → va_D A (ww_X8_cutsAll cI cM a_this a_this_all a_this_past a_this_refused a_this_box a_this_row a_this_text a_this_numbers a_this_before v_states v_empty v_cut v_rowMany v_taken v_found v_textLong v_at v_stopped v_all v_box) → va_S A s.heap H locs → lv_has ls 3 [(0, .ref a_this), (1, .int x1)] → W p l e rm_X8_cutsAll s m args below meth c H locs 0 0 (MQ below (g_QI D (g_tys cI cM) A (ww_X8_cutsAll cI cM a_this a_this_all a_this_past a_this_refused a_this_box a_this_row a_this_text a_this_numbers a_this_before v_states o_empty o_cut v_rowMany v_taken v_found v_textLong v_at v_stopped v_all o_box) r) args s 0 0 A) (F0 m 7 ls [])) (k34 : Int32 → Int32 → (Nat → Int32) → Int32 → Int32 → Option (Int32 × Int32 × Int32 × (Nat → Int32))) (hk34 : ∀ (v_empty : Int32) (v_cut : Int32) (v_box : Nat → Int32) (x1 : Int32) (x2 : Int32) (H : Heap) (locs : List Loc) (ls : Array Slot), k34 v_empty v_cut v_box x1 x2 = some (r, o_empty, o_cut, o_box) → va_P D vwCl (ww_X8_cutsAll cI cM a_this a_this_all a_this_past a_this_refused a_this_box a_this_row a_this_text a_this_numbers a_this_before v_states v_empty v_cut v_rowMany v_taken v_found v_textLong v_at v_stopped v_all v_box) H → va_D A (ww_X8_cutsAll cI cM a_this a_this_all a_this_past a_this_refused a_this_box a_this_row a_this_text a_this_numbers a_this_before v_states v_empty v_cut v_rowMany v_taken v_found v_textLong v_at v_stopped v_all v_box) → va_S A s.heap H locs → lv_has ls 3 [(0, .ref a_this), (1, .int x1), (2, .int x2)] → W p l e rm_X8_cutsAll s m args below meth c H locs 0 0 (MQ below (g_QI D (g_tys cI cM) A (ww_X8_cutsAll cI cM a_this a_this_all a_this_past a_this_refused a_this_box a_this_row a_this_text a_this_numbers a_this_before v_states o_empty o_cut v_rowMany v_taken v_found v_textLong v_at v_stopped v_all o_box) r) args s 0 0 A) (F0 m 34 ls [])) : ∀ (v_empty : Int32) (v_cut : Int32) (v_box : Nat → Int32) (x1 : Int32) (x2 : Int32) (H : Heap) (locs : List Loc) (ls : Array Slot), f_X8_cutsAll_C34 N v_all k7 k34 v_empty v_cut v_box x1 x2 = some (r, o_empty, o_cut, o_box) → va_P D vwCl (ww_X8_cutsAll cI cM a_this a_this_all a_this_past a_this_refused a_this_box a_this_row a_this_text a_this_numbers a_this_before v_states v_empty v_cut v_rowMany v_taken v_found v_textLong v_at v_stopped v_all v_box) H → va_D A (ww_X8_cutsAll cI cM a_this a_this_all a_this_past a_this_refused a_this_box a_this_row a_this_text a_this_numbers a_this_before v_states v_empty v_cut v_rowMany v_taken v_found v_textLong v_at v_stopped v_all v_box) → va_S A s.heap H locs → lv_has ls 3 [(0, .ref a_this), (1, .int x1), (2, .int x2)] → W p l e rm_X8_cutsAll s m args below meth c H locs 0 0 (MQ below (g_QI D (g_tys cI cM) A (ww_X8_cutsAll cI cM a_this a_this_all a_this_past a_this_refused a_this_box a_this_row a_this_text a_this_numbers a_this_before v_states o_empty o_cut v_rowMany v_taken v_found v_textLong v_at v_stopped v_all o_box) r) args s 0 0 A) (F0 m 34 ls []) := by
  obtain ⟨hx, hb, hr, hml, hown, hts, hlocks⟩ := id C0
  intro v_empty v_cut v_box x1 x2 H locs ls hf hP hD hS hl
  unfold f_X8_cutsAll_C34 at hf
  refine lv_iload_n hx hb dX8_cutsAll_34 rfl (lv_at hl 2 rfl) ?_
  refine lv_aload_n hx hb dX8_cutsAll_35 rfl (lv_at hl 0 rfl) ?_
  obtain ⟨r36, hg36, hf⟩ := o_b1_go hf
  refine g_callVi (wn := (ww_X8_cutsAll cI cM a_this a_this_all a_this_past a_this_refused a_this_box a_this_row a_this_text a_this_numbers a_this_before v_states v_empty v_cut v_rowMany v_taken v_found v_textLong v_at v_stopped v_all v_box)) (rest := [.int x2]) ⟨hx, hb, hml, hown, hts⟩ (c_X8_rules l D cI cM a_this a_this_all a_this_past a_this_refused a_this_box a_this_row a_this_text a_this_numbers a_this_before H.size v_states v_empty v_cut v_rowMany v_taken v_found v_textLong v_at v_stopped v_all hg36) (cwV 0 hts gX8_cutsAll_X8_rules rfl rfl rfl (by decide +kernel) ⟨Nat.le_of_ble_eq_true rfl, Nat.le_of_ble_eq_true rfl⟩) hK hP hD hS hA [0, 1] [2] [1, 2, 0] rfl rfl rfl rfl rfl rfl (by decide) rfl rfl rfl hl.1 rfl (Nat.le_of_ble_eq_true rfl) dX8_cutsAll_36 (fun H locs hP hD hS => ?_)
  refine lv_icmp_ge (tgt := 60) hx hb dX8_cutsAll_39 (by decide) (fun c39 => ?_) (fun c39 => ?_)
  · replace hf := o_t c39 hf
    exact w_X8_cutsAll_B60 C0 hA hK k7 hk7 v_empty v_cut v_box x1 H locs ls hf hP hD hS (lv_sub hl [0, 1] rfl)
  · replace hf := o_f c39 hf
    refine lv_aload_n hx hb dX8_cutsAll_42 rfl (lv_at hl 0 rfl) ?_
    refine va_get (D := D) (ci := 6) (v := .int v_empty) (C := RX8) (T := TX8) (N := 17) hx hb hts (fun _ h => (List.mem_cons_of_mem _ (List.mem_append_right _ h))) hown hK hP 0 rfl rfl 5 (by decide) (hts (.fieldLink RX8 124 "FloatBoxesModel" "empty" "Z") (List.mem_cons_of_mem _ (List.mem_append_left _ (List.mem_append_left _ (List.mem_of_getElem? (i := 1) rfl))))) (fun _ h9 => h9) rfl dX8_cutsAll_43 ?_
    refine lv_if_ne (tgt := 60) hx hb dX8_cutsAll_46 (by decide) (fun c46 => ?_) (fun c46 => ?_)
    · replace hf := o_f c46 hf
      exact w_X8_cutsAll_B60 C0 hA hK k7 hk7 v_empty v_cut v_box x1 H locs ls hf hP hD hS (lv_sub hl [0, 1] rfl)
    · replace hf := o_t c46 hf
      refine lv_aload_n hx hb dX8_cutsAll_49 rfl (lv_at hl 0 rfl) ?_
      refine lv_iload_n hx hb dX8_cutsAll_50 rfl (lv_at hl 2 rfl) ?_
      obtain ⟨v_empty_51, v_cut_51, v_box_51, hg51, hf⟩ := o_b3_go hf
      refine g_callVv (wn := (ww_X8_cutsAll cI cM a_this a_this_all a_this_past a_this_refused a_this_box a_this_row a_this_text a_this_numbers a_this_before v_states v_empty_51 v_cut_51 v_rowMany v_taken v_found v_textLong v_at v_stopped v_all v_box_51)) (rest := []) ⟨hx, hb, hml, hown, hts⟩ (c_X8_cutsBy l D cI cM a_this a_this_all a_this_past a_this_refused a_this_box a_this_row a_this_text a_this_numbers a_this_before H.size v_states v_empty v_cut v_rowMany v_taken v_found v_textLong v_at v_stopped v_all v_box hg51) (cwV 1 hts gX8_cutsAll_X8_cutsBy rfl rfl rfl (by decide +kernel) ⟨Nat.le_of_ble_eq_true rfl, Nat.le_of_ble_eq_true rfl⟩) hK hP hD hS hA [0, 1, 2] [] [0, 1, 2] rfl rfl rfl rfl rfl rfl (by decide) rfl rfl rfl hl.1 rfl (Nat.le_of_ble_eq_true rfl) dX8_cutsAll_51 (fun H locs hP hD hS => ?_)
      refine lv_iinc (v := x2 + 1) (lv' := [(2, .int (x2 + 1)), (0, .ref a_this), (1, .int x1)]) hx hb dX8_cutsAll_54 hl (k := 2) rfl rfl (by decide) rfl (fun ls hl => ?_)
      refine lv_goto (tgt := 34) hx hb dX8_cutsAll_57 (by decide) ?_
      exact hk34 v_empty_51 v_cut_51 v_box_51 x1 (x2 + 1) H locs ls hf hP hD hS (lv_sub hl [1, 2, 0] rfl)
set_option maxHeartbeats 4000000 in
set_option maxRecDepth 100000 in
theorem w_X8_cutsAll_L34 {p : Program} {l : Launch} {e : Env} {s : State} {m : MethodId} {args : Array Value} {below : List Frame} {meth : Method} {c : Code} {D : va_G} {cI cM : ClassId} {A : Nat → Prop} {a_this a_this_all a_this_past a_this_refused a_this_box a_this_row a_this_text a_this_numbers a_this_before : Nat} {v_states : Int32} {v_rowMany : Int32} {v_taken : Int32} {v_found : Int32} {v_textLong : Int32} {v_at : Int32} {v_stopped : Int32} {N : Nat} {v_all : Nat → Int32} {r : Int32} {o_empty : Int32} {o_cut : Int32} {o_box : Nat → Int32} (C0 : g_cx cX8_cutsAll (some .int) 3 RX8 wsX8_cutsAll p s m args meth c) (hA : ∀ q, s.heap.size ≤ q → A q) (hK : va_K D vwCl (g_tys cI cM) s) (k7 : Int32 → Int32 → (Nat → Int32) → Int32 → Option (Int32 × Int32 × Int32 × (Nat → Int32))) (hk7 : ∀ (v_empty : Int32) (v_cut : Int32) (v_box : Nat → Int32) (x1 : Int32) (H : Heap) (locs : List Loc) (ls : Array Slot), k7 v_empty v_cut v_box x1 = some (r, o_empty, o_cut, o_box) → va_P D vwCl (ww_X8_cutsAll cI cM a_this a_this_all a_this_past a_this_refused a_this_box a_this_row a_this_text a_this_numbers a_this_before v_states v_empty v_cut v_rowMany v_taken v_found v_textLong v_at v_stopped v_all v_box) H → va_D A (ww_X8_cutsAll cI cM a_this a_this_all a_this_past a_this_refused a_this_box a_this_row a_this_text a_this_numbers a_this_before v_states v_empty v_cut v_rowMany v_taken v_found v_textLong v_at v_stopped v_all v_box) → va_S A s.heap H locs → lv_has ls 3 [(0, .ref a_this), (1, .int x1)] → W p l e rm_X8_cutsAll s m args below meth c H locs 0 0 (MQ below (g_QI D (g_tys cI cM) A (ww_X8_cutsAll cI cM a_this a_this_all a_this_past a_this_refused a_this_box a_this_row a_this_text a_this_numbers a_this_before v_states o_empty o_cut v_rowMany v_taken v_found v_textLong v_at v_stopped v_all o_box) r) args s 0 0 A) (F0 m 7 ls [])) : ∀ n : Nat, ∀ (v_empty : Int32) (v_cut : Int32) (v_box : Nat → Int32) (x1 : Int32) (x2 : Int32) (H : Heap) (locs : List Loc) (ls : Array Slot), f_X8_cutsAll_L34 N v_all k7 n v_empty v_cut v_box x1 x2 = some (r, o_empty, o_cut, o_box) → va_P D vwCl (ww_X8_cutsAll cI cM a_this a_this_all a_this_past a_this_refused a_this_box a_this_row a_this_text a_this_numbers a_this_before v_states v_empty v_cut v_rowMany v_taken v_found v_textLong v_at v_stopped v_all v_box) H → va_D A (ww_X8_cutsAll cI cM a_this a_this_all a_this_past a_this_refused a_this_box a_this_row a_this_text a_this_numbers a_this_before v_states v_empty v_cut v_rowMany v_taken v_found v_textLong v_at v_stopped v_all v_box) → va_S A s.heap H locs → lv_has ls 3 [(0, .ref a_this), (1, .int x1), (2, .int x2)] → W p l e rm_X8_cutsAll s m args below meth c H locs 0 0 (MQ below (g_QI D (g_tys cI cM) A (ww_X8_cutsAll cI cM a_this a_this_all a_this_past a_this_refused a_this_box a_this_row a_this_text a_this_numbers a_this_before v_states o_empty o_cut v_rowMany v_taken v_found v_textLong v_at v_stopped v_all o_box) r) args s 0 0 A) (F0 m 34 ls []) := by
  intro n
  induction n with
  | zero =>
    intro v_empty v_cut v_box x1 x2 H locs ls hf
    exact absurd hf (fun h => nomatch h)
  | succ n ih =>
    intro v_empty v_cut v_box x1 x2 H locs ls hf
    exact w_X8_cutsAll_C34 C0 hA hK k7 hk7 _ ih v_empty v_cut v_box x1 x2 H locs ls hf
def f_X8_cutsAll_C7 (N : Nat) (v_all : Nat → Int32) (k7 : Int32 → Int32 → (Nat → Int32) → Int32 → Option (Int32 × Int32 × Int32 × (Nat → Int32))) (v_empty : Int32) (v_cut : Int32) (v_box : Nat → Int32) (x1 : Int32) : Option (Int32 × Int32 × Int32 × (Nat → Int32)) :=
  if v_cut = 0 then
    some (x1, v_empty, v_cut, v_box)
  else
    if v_empty = 0 then
      if 12 ≤ x1 then
        some (x1, v_empty, v_cut, v_box)
      else
        f_X8_cutsAll_L34 N v_all k7 N v_empty 0 v_box x1 0
    else
      some (x1, v_empty, v_cut, v_box)
def f_X8_cutsAll_L7 (N : Nat) (v_all : Nat → Int32) : Nat → Int32 → Int32 → (Nat → Int32) → Int32 → Option (Int32 × Int32 × Int32 × (Nat → Int32))
  | 0 => fun _ _ _ _ => none
  | n + 1 => f_X8_cutsAll_C7 N v_all (f_X8_cutsAll_L7 N v_all n)
set_option maxHeartbeats 4000000 in
set_option maxRecDepth 100000 in
theorem w_X8_cutsAll_C7 {p : Program} {l : Launch} {e : Env} {s : State} {m : MethodId} {args : Array Value} {below : List Frame} {meth : Method} {c : Code} {D : va_G} {cI cM : ClassId} {A : Nat → Prop} {a_this a_this_all a_this_past a_this_refused a_this_box a_this_row a_this_text a_this_numbers a_this_before : Nat} {v_states : Int32} {v_rowMany : Int32} {v_taken : Int32} {v_found : Int32} {v_textLong : Int32} {v_at : Int32} {v_stopped : Int32} {N : Nat} {v_all : Nat → Int32} {r : Int32} {o_empty : Int32} {o_cut : Int32} {o_box : Nat → Int32} (C0 : g_cx cX8_cutsAll (some .int) 3 RX8 wsX8_cutsAll p s m args meth c) (hA : ∀ q, s.heap.size ≤ q → A q) (hK : va_K D vwCl (g_tys cI cM) s) (k7 : Int32 → Int32 → (Nat → Int32) → Int32 → Option (Int32 × Int32 × Int32 × (Nat → Int32))) (hk7 : ∀ (v_empty : Int32) (v_cut : Int32) (v_box : Nat → Int32) (x1 : Int32) (H : Heap) (locs : List Loc) (ls : Array Slot), k7 v_empty v_cut v_box x1 = some (r, o_empty, o_cut, o_box) → va_P D vwCl (ww_X8_cutsAll cI cM a_this a_this_all a_this_past a_this_refused a_this_box a_this_row a_this_text a_this_numbers a_this_before v_states v_empty v_cut v_rowMany v_taken v_found v_textLong v_at v_stopped v_all v_box) H → va_D A (ww_X8_cutsAll cI cM a_this a_this_all a_this_past a_this_refused a_this_box a_this_row a_this_text a_this_numbers a_this_before v_states v_empty v_cut v_rowMany v_taken v_found v_textLong v_at v_stopped v_all v_box) → va_S A s.heap H locs → lv_has ls 3 [(0, .ref a_this), (1, .int x1)] → W p l e rm_X8_cutsAll s m args below meth c H locs 0 0 (MQ below (g_QI D (g_tys cI cM) A (ww_X8_cutsAll cI cM a_this a_this_all a_this_past a_this_refused a_this_box a_this_row a_this_text a_this_numbers a_this_before v_states o_empty o_cut v_rowMany v_taken v_found v_textLong v_at v_stopped v_all o_box) r) args s 0 0 A) (F0 m 7 ls [])) : ∀ (v_empty : Int32) (v_cut : Int32) (v_box : Nat → Int32) (x1 : Int32) (H : Heap) (locs : List Loc) (ls : Array Slot), f_X8_cutsAll_C7 N v_all k7 v_empty v_cut v_box x1 = some (r, o_empty, o_cut, o_box) → va_P D vwCl (ww_X8_cutsAll cI cM a_this a_this_all a_this_past a_this_refused a_this_box a_this_row a_this_text a_this_numbers a_this_before v_states v_empty v_cut v_rowMany v_taken v_found v_textLong v_at v_stopped v_all v_box) H → va_D A (ww_X8_cutsAll cI cM a_this a_this_all a_this_past a_this_refused a_this_box a_this_row a_this_text a_this_numbers a_this_before v_states v_empty v_cut v_rowMany v_taken v_found v_textLong v_at v_stopped v_all v_box) → va_S A s.heap H locs → lv_has ls 3 [(0, .ref a_this), (1, .int x1)] → W p l e rm_X8_cutsAll s m args below meth c H locs 0 0 (MQ below (g_QI D (g_tys cI cM) A (ww_X8_cutsAll cI cM a_this a_this_all a_this_past a_this_refused a_this_box a_this_row a_this_text a_this_numbers a_this_before v_states o_empty o_cut v_rowMany v_taken v_found v_textLong v_at v_stopped v_all o_box) r) args s 0 0 A) (F0 m 7 ls []) := by
  obtain ⟨hx, hb, hr, hml, hown, hts, hlocks⟩ := id C0
  intro v_empty v_cut v_box x1 H locs ls hf hP hD hS hl
  unfold f_X8_cutsAll_C7 at hf
  refine lv_aload_n hx hb dX8_cutsAll_7 rfl (lv_at hl 0 rfl) ?_
  refine va_get (D := D) (ci := 6) (v := .int v_cut) (C := RX8) (T := TX8) (N := 17) hx hb hts (fun _ h => (List.mem_cons_of_mem _ (List.mem_append_right _ h))) hown hK hP 0 rfl rfl 6 (by decide) (hts (.fieldLink RX8 134 "FloatBoxesModel" "cut" "Z") (List.mem_cons_of_mem _ (List.mem_append_left _ (List.mem_append_left _ (List.mem_of_getElem? (i := 0) rfl))))) (fun _ h9 => h9) rfl dX8_cutsAll_8 ?_
  refine lv_if_eq (tgt := 66) hx hb dX8_cutsAll_11 (by decide) (fun c11 => ?_) (fun c11 => ?_)
  · replace hf := o_t c11 hf
    refine lv_iload_n hx hb dX8_cutsAll_66 rfl (lv_at hl 1 rfl) ?_
    obtain ⟨q0, y0⟩ := o_rp hf
    obtain ⟨q1, y1⟩ := o_rp y0
    obtain ⟨q2, y2⟩ := o_rp y1
    have q3 := Option.some.inj y2
    subst q0 q1 q2 q3
    exact g_iret hx hb hr hlocks hP hD hK hS dX8_cutsAll_67
  · replace hf := o_f c11 hf
    refine lv_aload_n hx hb dX8_cutsAll_14 rfl (lv_at hl 0 rfl) ?_
    refine va_get (D := D) (ci := 6) (v := .int v_empty) (C := RX8) (T := TX8) (N := 17) hx hb hts (fun _ h => (List.mem_cons_of_mem _ (List.mem_append_right _ h))) hown hK hP 0 rfl rfl 5 (by decide) (hts (.fieldLink RX8 124 "FloatBoxesModel" "empty" "Z") (List.mem_cons_of_mem _ (List.mem_append_left _ (List.mem_append_left _ (List.mem_of_getElem? (i := 1) rfl))))) (fun _ h9 => h9) rfl dX8_cutsAll_15 ?_
    refine lv_if_ne (tgt := 66) hx hb dX8_cutsAll_18 (by decide) (fun c18 => ?_) (fun c18 => ?_)
    · replace hf := o_f c18 hf
      refine lv_iload_n hx hb dX8_cutsAll_66 rfl (lv_at hl 1 rfl) ?_
      obtain ⟨q0, y0⟩ := o_rp hf
      obtain ⟨q1, y1⟩ := o_rp y0
      obtain ⟨q2, y2⟩ := o_rp y1
      have q3 := Option.some.inj y2
      subst q0 q1 q2 q3
      exact g_iret hx hb hr hlocks hP hD hK hS dX8_cutsAll_67
    · replace hf := o_t c18 hf
      refine lv_iload_n hx hb dX8_cutsAll_21 rfl (lv_at hl 1 rfl) ?_
      refine lv_bipush (v := 12) hx hb dX8_cutsAll_22 (by decide) ?_
      refine lv_icmp_ge (tgt := 66) hx hb dX8_cutsAll_24 (by decide) (fun c24 => ?_) (fun c24 => ?_)
      · replace hf := o_t c24 hf
        refine lv_iload_n hx hb dX8_cutsAll_66 rfl (lv_at hl 1 rfl) ?_
        obtain ⟨q0, y0⟩ := o_rp hf
        obtain ⟨q1, y1⟩ := o_rp y0
        obtain ⟨q2, y2⟩ := o_rp y1
        have q3 := Option.some.inj y2
        subst q0 q1 q2 q3
        exact g_iret hx hb hr hlocks hP hD hK hS dX8_cutsAll_67
      · replace hf := o_f c24 hf
        refine lv_aload_n hx hb dX8_cutsAll_27 rfl (lv_at hl 0 rfl) ?_
        refine lv_iconst (v := 0) hx hb dX8_cutsAll_28 (by decide) ?_
        refine va_put (D := D) (ci := 6) (v := .int 0) (ty := .boolean) (C := RX8) (T := TX8) (N := 17) hx hb hts (fun _ h => (List.mem_cons_of_mem _ (List.mem_append_right _ h))) tyX8 tyX8_ok nmX8 hown hK hP hD hS 0 rfl rfl 6 (by decide) (hts (.fieldLink RX8 134 "FloatBoxesModel" "cut" "Z") (List.mem_cons_of_mem _ (List.mem_append_left _ (List.mem_append_left _ (List.mem_of_getElem? (i := 0) rfl))))) (fun _ h9 => h9) rfl (by decide +kernel) (by decide) (by decide) (Nat.le_of_ble_eq_true rfl) dX8_cutsAll_29 (fun H locs hP hD hS => ?_)
        replace hP : va_P D vwCl (ww_X8_cutsAll cI cM a_this a_this_all a_this_past a_this_refused a_this_box a_this_row a_this_text a_this_numbers a_this_before v_states v_empty 0 v_rowMany v_taken v_found v_textLong v_at v_stopped v_all v_box) H := hP
        replace hD : va_D A (ww_X8_cutsAll cI cM a_this a_this_all a_this_past a_this_refused a_this_box a_this_row a_this_text a_this_numbers a_this_before v_states v_empty 0 v_rowMany v_taken v_found v_textLong v_at v_stopped v_all v_box) := hD
        refine lv_iconst (v := 0) hx hb dX8_cutsAll_32 (by decide) ?_
        refine lv_istore_n (lv' := [(2, .int 0), (0, .ref a_this), (1, .int x1)]) hx hb dX8_cutsAll_33 rfl hl (by decide) rfl (fun ls hl => ?_)
        exact w_X8_cutsAll_L34 C0 hA hK k7 hk7 N v_empty 0 v_box x1 0 H locs ls hf hP hD hS (lv_sub hl [1, 2, 0] rfl)
set_option maxHeartbeats 4000000 in
set_option maxRecDepth 100000 in
theorem w_X8_cutsAll_L7 {p : Program} {l : Launch} {e : Env} {s : State} {m : MethodId} {args : Array Value} {below : List Frame} {meth : Method} {c : Code} {D : va_G} {cI cM : ClassId} {A : Nat → Prop} {a_this a_this_all a_this_past a_this_refused a_this_box a_this_row a_this_text a_this_numbers a_this_before : Nat} {v_states : Int32} {v_rowMany : Int32} {v_taken : Int32} {v_found : Int32} {v_textLong : Int32} {v_at : Int32} {v_stopped : Int32} {N : Nat} {v_all : Nat → Int32} {r : Int32} {o_empty : Int32} {o_cut : Int32} {o_box : Nat → Int32} (C0 : g_cx cX8_cutsAll (some .int) 3 RX8 wsX8_cutsAll p s m args meth c) (hA : ∀ q, s.heap.size ≤ q → A q) (hK : va_K D vwCl (g_tys cI cM) s) : ∀ n : Nat, ∀ (v_empty : Int32) (v_cut : Int32) (v_box : Nat → Int32) (x1 : Int32) (H : Heap) (locs : List Loc) (ls : Array Slot), f_X8_cutsAll_L7 N v_all n v_empty v_cut v_box x1 = some (r, o_empty, o_cut, o_box) → va_P D vwCl (ww_X8_cutsAll cI cM a_this a_this_all a_this_past a_this_refused a_this_box a_this_row a_this_text a_this_numbers a_this_before v_states v_empty v_cut v_rowMany v_taken v_found v_textLong v_at v_stopped v_all v_box) H → va_D A (ww_X8_cutsAll cI cM a_this a_this_all a_this_past a_this_refused a_this_box a_this_row a_this_text a_this_numbers a_this_before v_states v_empty v_cut v_rowMany v_taken v_found v_textLong v_at v_stopped v_all v_box) → va_S A s.heap H locs → lv_has ls 3 [(0, .ref a_this), (1, .int x1)] → W p l e rm_X8_cutsAll s m args below meth c H locs 0 0 (MQ below (g_QI D (g_tys cI cM) A (ww_X8_cutsAll cI cM a_this a_this_all a_this_past a_this_refused a_this_box a_this_row a_this_text a_this_numbers a_this_before v_states o_empty o_cut v_rowMany v_taken v_found v_textLong v_at v_stopped v_all o_box) r) args s 0 0 A) (F0 m 7 ls []) := by
  intro n
  induction n with
  | zero =>
    intro v_empty v_cut v_box x1 H locs ls hf
    exact absurd hf (fun h => nomatch h)
  | succ n ih =>
    intro v_empty v_cut v_box x1 H locs ls hf
    exact w_X8_cutsAll_C7 C0 hA hK _ ih v_empty v_cut v_box x1 H locs ls hf
def f_X8_cutsAll (N : Nat) (v_all : Nat → Int32) (v_empty : Int32) (v_cut : Int32) (v_box : Nat → Int32) : Option (Int32 × Int32 × Int32 × (Nat → Int32)) :=
  f_X8_cutsAll_L7 N v_all N v_empty 1 v_box 0
set_option maxHeartbeats 4000000 in
set_option maxRecDepth 100000 in
theorem w_X8_cutsAll_B0 {p : Program} {l : Launch} {e : Env} {s : State} {m : MethodId} {args : Array Value} {below : List Frame} {meth : Method} {c : Code} {D : va_G} {cI cM : ClassId} {A : Nat → Prop} {a_this a_this_all a_this_past a_this_refused a_this_box a_this_row a_this_text a_this_numbers a_this_before : Nat} {v_states : Int32} {v_rowMany : Int32} {v_taken : Int32} {v_found : Int32} {v_textLong : Int32} {v_at : Int32} {v_stopped : Int32} {N : Nat} {v_all : Nat → Int32} {r : Int32} {o_empty : Int32} {o_cut : Int32} {o_box : Nat → Int32} (C0 : g_cx cX8_cutsAll (some .int) 3 RX8 wsX8_cutsAll p s m args meth c) (hA : ∀ q, s.heap.size ≤ q → A q) (hK : va_K D vwCl (g_tys cI cM) s) : ∀ (v_empty : Int32) (v_cut : Int32) (v_box : Nat → Int32) (H : Heap) (locs : List Loc) (ls : Array Slot), f_X8_cutsAll N v_all v_empty v_cut v_box = some (r, o_empty, o_cut, o_box) → va_P D vwCl (ww_X8_cutsAll cI cM a_this a_this_all a_this_past a_this_refused a_this_box a_this_row a_this_text a_this_numbers a_this_before v_states v_empty v_cut v_rowMany v_taken v_found v_textLong v_at v_stopped v_all v_box) H → va_D A (ww_X8_cutsAll cI cM a_this a_this_all a_this_past a_this_refused a_this_box a_this_row a_this_text a_this_numbers a_this_before v_states v_empty v_cut v_rowMany v_taken v_found v_textLong v_at v_stopped v_all v_box) → va_S A s.heap H locs → lv_has ls 3 [(0, .ref a_this)] → W p l e rm_X8_cutsAll s m args below meth c H locs 0 0 (MQ below (g_QI D (g_tys cI cM) A (ww_X8_cutsAll cI cM a_this a_this_all a_this_past a_this_refused a_this_box a_this_row a_this_text a_this_numbers a_this_before v_states o_empty o_cut v_rowMany v_taken v_found v_textLong v_at v_stopped v_all o_box) r) args s 0 0 A) (F0 m 0 ls []) := by
  obtain ⟨hx, hb, hr, hml, hown, hts, hlocks⟩ := id C0
  intro v_empty v_cut v_box H locs ls hf hP hD hS hl
  unfold f_X8_cutsAll at hf
  refine lv_iconst (v := 0) hx hb dX8_cutsAll_0 (by decide) ?_
  refine lv_istore_n (lv' := [(1, .int 0), (0, .ref a_this)]) hx hb dX8_cutsAll_1 rfl hl (by decide) rfl (fun ls hl => ?_)
  refine lv_aload_n hx hb dX8_cutsAll_2 rfl (lv_at hl 1 rfl) ?_
  refine lv_iconst (v := 1) hx hb dX8_cutsAll_3 (by decide) ?_
  refine va_put (D := D) (ci := 6) (v := .int 1) (ty := .boolean) (C := RX8) (T := TX8) (N := 17) hx hb hts (fun _ h => (List.mem_cons_of_mem _ (List.mem_append_right _ h))) tyX8 tyX8_ok nmX8 hown hK hP hD hS 0 rfl rfl 6 (by decide) (hts (.fieldLink RX8 134 "FloatBoxesModel" "cut" "Z") (List.mem_cons_of_mem _ (List.mem_append_left _ (List.mem_append_left _ (List.mem_of_getElem? (i := 0) rfl))))) (fun _ h9 => h9) rfl (by decide +kernel) (by decide) (by decide) (Nat.le_of_ble_eq_true rfl) dX8_cutsAll_4 (fun H locs hP hD hS => ?_)
  replace hP : va_P D vwCl (ww_X8_cutsAll cI cM a_this a_this_all a_this_past a_this_refused a_this_box a_this_row a_this_text a_this_numbers a_this_before v_states v_empty 1 v_rowMany v_taken v_found v_textLong v_at v_stopped v_all v_box) H := hP
  replace hD : va_D A (ww_X8_cutsAll cI cM a_this a_this_all a_this_past a_this_refused a_this_box a_this_row a_this_text a_this_numbers a_this_before v_states v_empty 1 v_rowMany v_taken v_found v_textLong v_at v_stopped v_all v_box) := hD
  exact w_X8_cutsAll_L7 C0 hA hK N v_empty 1 v_box 0 H locs ls hf hP hD hS (lv_sub hl [1, 0] rfl)
set_option maxHeartbeats 4000000 in
set_option maxRecDepth 100000 in
theorem c_X8_cutsAll (l : Launch) (D : va_G) (cI cM : ClassId) (a_this a_this_all a_this_past a_this_refused a_this_box a_this_row a_this_text a_this_numbers a_this_before : Nat) (sz : Nat) (v_states : Int32) (v_empty : Int32) (v_cut : Int32) (v_rowMany : Int32) (v_taken : Int32) (v_found : Int32) (v_textLong : Int32) (v_at : Int32) (v_stopped : Int32) (v_all : Nat → Int32) (v_box : Nat → Int32) {N : Nat} {r : Int32} {o_empty : Int32} {o_cut : Int32} {o_box : Nat → Int32} (hf : f_X8_cutsAll N v_all v_empty v_cut v_box = some (r, o_empty, o_cut, o_box)) : Met l yX8_cutsAll wsX8_cutsAll rm_X8_cutsAll (g_Pc D (g_tys cI cM) (ww_X8_cutsAll cI cM a_this a_this_all a_this_past a_this_refused a_this_box a_this_row a_this_text a_this_numbers a_this_before v_states v_empty v_cut v_rowMany v_taken v_found v_textLong v_at v_stopped v_all v_box) sz [.ref a_this]) (g_QI D (g_tys cI cM) (va_A (ww_X8_cutsAll cI cM a_this a_this_all a_this_past a_this_refused a_this_box a_this_row a_this_text a_this_numbers a_this_before v_states v_empty v_cut v_rowMany v_taken v_found v_textLong v_at v_stopped v_all v_box) sz) (ww_X8_cutsAll cI cM a_this a_this_all a_this_past a_this_refused a_this_box a_this_row a_this_text a_this_numbers a_this_before v_states o_empty o_cut v_rowMany v_taken v_found v_textLong v_at v_stopped v_all o_box) r) 0 0 (va_A (ww_X8_cutsAll cI cM a_this a_this_all a_this_past a_this_refused a_this_box a_this_row a_this_text a_this_numbers a_this_before v_states v_empty v_cut v_rowMany v_taken v_found v_textLong v_at v_stopped v_all v_box) sz) := by
  refine g_met (cc := cX8_cutsAll) (maxL := 3) (ret := (some .int)) (Qc := fun D A => g_QI D (g_tys cI cM) A (ww_X8_cutsAll cI cM a_this a_this_all a_this_past a_this_refused a_this_box a_this_row a_this_text a_this_numbers a_this_before v_states o_empty o_cut v_rowMany v_taken v_found v_textLong v_at v_stopped v_all o_box) r) (by decide) rfl ?_
  intro p e s m below meth c A C0 hA hK hP hD
  have hl := lv_entry ([.ref a_this]) (n := 3) (Nat.le_of_ble_eq_true rfl)
  rw [lg_entry_eq]
  generalize (lg_sl ([.ref a_this]) ++ List.replicate (3 - (lg_sl ([.ref a_this])).length) Slot.unset).toArray = ls at hl ⊢
  have hl : lv_has ls 3 [(0, .ref a_this)] := hl
  exact w_X8_cutsAll_B0 C0 hA hK v_empty v_cut v_box s.heap [] ls hf hP hD va_S.rf (lv_sub hl [0] rfl)
/-! FloatBoxesModel.cutNow()I -/
abbrev rm_X8_cutNow : Room := { frames := 11, cells := 0, slots := 0, locals := 270 }
abbrev ww_X8_cutNow (cI cM : ClassId) (a_this a_this_all a_this_past a_this_refused a_this_box a_this_row a_this_text a_this_numbers a_this_before : Nat) (v_states : Int32) (v_empty : Int32) (v_cut : Int32) (v_rowMany : Int32) (v_taken : Int32) (v_found : Int32) (v_textLong : Int32) (v_at : Int32) (v_stopped : Int32) (v_all : Nat → Int32) (v_box : Nat → Int32) : va_W := [(a_this, .inr (6, [.ref a_this_all, .ref a_this_past, .int v_states, .ref a_this_refused, .ref a_this_box, .int v_empty, .int v_cut, .ref a_this_row, .int v_rowMany, .int v_taken, .int v_found, .ref a_this_text, .int v_textLong, .int v_at, .ref a_this_numbers, .int v_stopped, .ref a_this_before])), (a_this_all, .inl (cI, 38, .inl v_all)), (a_this_box, .inl (cI, 12, .inl v_box))]
def f_X8_cutNow_C21 (N : Nat) (k21 : Int32 → Int32 → (Nat → Int32) → (Nat → Int32) → Int32 → Int32 → Option (Int32 × Int32 × Int32 × (Nat → Int32) × (Nat → Int32))) (v_empty : Int32) (v_cut : Int32) (v_all : Nat → Int32) (v_box : Nat → Int32) (x1 : Int32) (x2 : Int32) : Option (Int32 × Int32 × Int32 × (Nat → Int32) × (Nat → Int32)) :=
  o_b1 (f_X8_unknowns v_all) (fun (r23 : Int32) =>
  if r23 ≤ x2 then
    some (x1, v_empty, v_cut, v_all, v_box)
  else
    o_b1 (f_X8_low v_box x2) (fun (r40 : Int32) =>
    o_in (1 + (2 * x2)) 38 (
    o_b1 (f_X8_high v_box x2) (fun (r55 : Int32) =>
    o_in (2 + (2 * x2)) 38 (
    k21 v_empty v_cut (upd (upd v_all (1 + (2 * x2)).toNatClampNeg r40) (2 + (2 * x2)).toNatClampNeg r55) v_box x1 (x2 + 1))))))
def f_X8_cutNow_L21 (N : Nat) : Nat → Int32 → Int32 → (Nat → Int32) → (Nat → Int32) → Int32 → Int32 → Option (Int32 × Int32 × Int32 × (Nat → Int32) × (Nat → Int32))
  | 0 => fun _ _ _ _ _ _ => none
  | n + 1 => f_X8_cutNow_C21 N (f_X8_cutNow_L21 N n)
set_option maxHeartbeats 4000000 in
set_option maxRecDepth 100000 in
theorem w_X8_cutNow_C21 {p : Program} {l : Launch} {e : Env} {s : State} {m : MethodId} {args : Array Value} {below : List Frame} {meth : Method} {c : Code} {D : va_G} {cI cM : ClassId} {A : Nat → Prop} {a_this a_this_all a_this_past a_this_refused a_this_box a_this_row a_this_text a_this_numbers a_this_before : Nat} {v_states : Int32} {v_rowMany : Int32} {v_taken : Int32} {v_found : Int32} {v_textLong : Int32} {v_at : Int32} {v_stopped : Int32} {N : Nat} {r : Int32} {o_empty : Int32} {o_cut : Int32} {o_all : Nat → Int32} {o_box : Nat → Int32} (C0 : g_cx cX8_cutNow (some .int) 3 RX8 wsX8_cutNow p s m args meth c) (hA : ∀ q, s.heap.size ≤ q → A q) (hK : va_K D vwCl (g_tys cI cM) s) (k21 : Int32 → Int32 → (Nat → Int32) → (Nat → Int32) → Int32 → Int32 → Option (Int32 × Int32 × Int32 × (Nat → Int32) × (Nat → Int32))) (hk21 : ∀ (v_empty : Int32) (v_cut : Int32) (v_all : Nat → Int32) (v_box : Nat → Int32) (x1 : Int32) (x2 : Int32) (H : Heap) (locs : List Loc) (ls : Array Slot), k21 v_empty v_cut v_all v_box x1 x2 = some (r, o_empty, o_cut, o_all, o_box) → va_P D vwCl (ww_X8_cutNow cI cM a_this a_this_all a_this_past a_this_refused a_this_box a_this_row a_this_text a_this_numbers a_this_before v_states v_empty v_cut v_rowMany v_taken v_found v_textLong v_at v_stopped v_all v_box) H → va_D A (ww_X8_cutNow cI cM a_this a_this_all a_this_past a_this_refused a_this_box a_this_row a_this_text a_this_numbers a_this_before v_states v_empty v_cut v_rowMany v_taken v_found v_textLong v_at v_stopped v_all v_box) → va_S A s.heap H locs → lv_has ls 3 [(0, .ref a_this), (1, .int x1), (2, .int x2)] → W p l e rm_X8_cutNow s m args below meth c H locs 0 0 (MQ below (g_QI D (g_tys cI cM) A (ww_X8_cutNow cI cM a_this a_this_all a_this_past a_this_refused a_this_box a_this_row a_this_text a_this_numbers a_this_before v_states o_empty o_cut v_rowMany v_taken v_found v_textLong v_at v_stopped o_all o_box) r) args s 0 0 A) (F0 m 21 ls [])) : ∀ (v_empty : Int32) (v_cut : Int32) (v_all : Nat → Int32) (v_box : Nat → Int32) (x1 : Int32) (x2 : Int32) (H : Heap) (locs : List Loc) (ls : Array Slot), f_X8_cutNow_C21 N k21 v_empty v_cut v_all v_box x1 x2 = some (r, o_empty, o_cut, o_all, o_box) → va_P D vwCl (ww_X8_cutNow cI cM a_this a_this_all a_this_past a_this_refused a_this_box a_this_row a_this_text a_this_numbers a_this_before v_states v_empty v_cut v_rowMany v_taken v_found v_textLong v_at v_stopped v_all v_box) H → va_D A (ww_X8_cutNow cI cM a_this a_this_all a_this_past a_this_refused a_this_box a_this_row a_this_text a_this_numbers a_this_before v_states v_empty v_cut v_rowMany v_taken v_found v_textLong v_at v_stopped v_all v_box) → va_S A s.heap H locs → lv_has ls 3 [(0, .ref a_this), (1, .int x1), (2, .int x2)] → W p l e rm_X8_cutNow s m args below meth c H locs 0 0 (MQ below (g_QI D (g_tys cI cM) A (ww_X8_cutNow cI cM a_this a_this_all a_this_past a_this_refused a_this_box a_this_row a_this_text a_this_numbers a_this_before v_states o_empty o_cut v_rowMany v_taken v_found v_textLong v_at v_stopped o_all o_box) r) args s 0 0 A) (F0 m 21 ls []) := by
  obtain ⟨hx, hb, hr, hml, hown, hts, hlocks⟩ := id C0
  intro v_empty v_cut v_all v_box x1 x2 H locs ls hf hP hD hS hl
  unfold f_X8_cutNow_C21 at hf
  refine lv_iload_n hx hb dX8_cutNow_21 rfl (lv_at hl 2 rfl) ?_
  refine lv_aload_n hx hb dX8_cutNow_22 rfl (lv_at hl 0 rfl) ?_
  obtain ⟨r23, hg23, hf⟩ := o_b1_go hf
  refine g_callVi (wn := (ww_X8_cutNow cI cM a_this a_this_all a_this_past a_this_refused a_this_box a_this_row a_this_text a_this_numbers a_this_before v_states v_empty v_cut v_rowMany v_taken v_found v_textLong v_at v_stopped v_all v_box)) (rest := [.int x2]) ⟨hx, hb, hml, hown, hts⟩ (c_X8_unknowns l D cI cM a_this a_this_all a_this_past a_this_refused a_this_box a_this_row a_this_text a_this_numbers a_this_before H.size v_states v_empty v_cut v_rowMany v_taken v_found v_textLong v_at v_stopped v_all hg23) (cwV 0 hts gX8_cutNow_X8_unknowns rfl rfl rfl (by decide +kernel) ⟨Nat.le_of_ble_eq_true rfl, Nat.le_of_ble_eq_true rfl⟩) hK hP hD hS hA [0, 1] [2] [1, 2, 0] rfl rfl rfl rfl rfl rfl (by decide) rfl rfl rfl hl.1 rfl (Nat.le_of_ble_eq_true rfl) dX8_cutNow_23 (fun H locs hP hD hS => ?_)
  refine lv_icmp_ge (tgt := 65) hx hb dX8_cutNow_26 (by decide) (fun c26 => ?_) (fun c26 => ?_)
  · replace hf := o_t c26 hf
    refine lv_iload_n hx hb dX8_cutNow_65 rfl (lv_at hl 1 rfl) ?_
    obtain ⟨q0, y0⟩ := o_rp hf
    obtain ⟨q1, y1⟩ := o_rp y0
    obtain ⟨q2, y2⟩ := o_rp y1
    obtain ⟨q3, y3⟩ := o_rp y2
    have q4 := Option.some.inj y3
    subst q0 q1 q2 q3 q4
    exact g_iret hx hb hr hlocks hP hD hK hS dX8_cutNow_66
  · replace hf := o_f c26 hf
    refine lv_aload_n hx hb dX8_cutNow_29 rfl (lv_at hl 0 rfl) ?_
    refine va_get (D := D) (ci := 6) (v := .ref a_this_all) (C := RX8) (T := TX8) (N := 17) hx hb hts (fun _ h => (List.mem_cons_of_mem _ (List.mem_append_right _ h))) hown hK hP 0 rfl rfl 0 (by decide) (hts (.fieldLink RX8 7 "FloatBoxesModel" "all" "[I") (List.mem_cons_of_mem _ (List.mem_append_left _ (List.mem_append_left _ (List.mem_of_getElem? (i := 2) rfl))))) (fun _ h9 => h9) rfl dX8_cutNow_30 ?_
    refine lv_iconst (v := 1) hx hb dX8_cutNow_33 (by decide) ?_
    refine lv_iconst (v := 2) hx hb dX8_cutNow_34 (by decide) ?_
    refine lv_iload_n hx hb dX8_cutNow_35 rfl (lv_at hl 2 rfl) ?_
    refine lv_imul hx hb dX8_cutNow_36 ?_
    refine lv_iadd hx hb dX8_cutNow_37 ?_
    refine lv_aload_n hx hb dX8_cutNow_38 rfl (lv_at hl 0 rfl) ?_
    refine lv_iload_n hx hb dX8_cutNow_39 rfl (lv_at hl 2 rfl) ?_
    obtain ⟨r40, hg40, hf⟩ := o_b1_go hf
    refine g_callVi (wn := (ww_X8_cutNow cI cM a_this a_this_all a_this_past a_this_refused a_this_box a_this_row a_this_text a_this_numbers a_this_before v_states v_empty v_cut v_rowMany v_taken v_found v_textLong v_at v_stopped v_all v_box)) (rest := [.int (1 + (2 * x2)), .ref a_this_all]) ⟨hx, hb, hml, hown, hts⟩ (c_X8_low l D cI cM a_this a_this_all a_this_past a_this_refused a_this_box a_this_row a_this_text a_this_numbers a_this_before H.size v_states v_empty v_cut v_rowMany v_taken v_found v_textLong v_at v_stopped v_box hg40) (cwV 1 hts gX8_cutNow_X8_low rfl rfl rfl (by decide +kernel) ⟨Nat.le_of_ble_eq_true rfl, Nat.le_of_ble_eq_true rfl⟩) hK hP hD hS hA [0, 2] [1] [1, 0, 2] rfl rfl rfl rfl rfl rfl (by decide) rfl rfl rfl hl.1 rfl (Nat.le_of_ble_eq_true rfl) dX8_cutNow_40 (fun H locs hP hD hS => ?_)
    obtain ⟨h43, hf⟩ := o_in_go hf
    refine va_iast hx hb hK hP hD hS 1 0 rfl rfl h43 dX8_cutNow_43 (fun H locs hP hD hS => ?_)
    replace hP : va_P D vwCl (ww_X8_cutNow cI cM a_this a_this_all a_this_past a_this_refused a_this_box a_this_row a_this_text a_this_numbers a_this_before v_states v_empty v_cut v_rowMany v_taken v_found v_textLong v_at v_stopped (upd v_all (1 + (2 * x2)).toNatClampNeg r40) v_box) H := hP
    replace hD : va_D A (ww_X8_cutNow cI cM a_this a_this_all a_this_past a_this_refused a_this_box a_this_row a_this_text a_this_numbers a_this_before v_states v_empty v_cut v_rowMany v_taken v_found v_textLong v_at v_stopped (upd v_all (1 + (2 * x2)).toNatClampNeg r40) v_box) := hD
    refine lv_aload_n hx hb dX8_cutNow_44 rfl (lv_at hl 0 rfl) ?_
    refine va_get (D := D) (ci := 6) (v := .ref a_this_all) (C := RX8) (T := TX8) (N := 17) hx hb hts (fun _ h => (List.mem_cons_of_mem _ (List.mem_append_right _ h))) hown hK hP 0 rfl rfl 0 (by decide) (hts (.fieldLink RX8 7 "FloatBoxesModel" "all" "[I") (List.mem_cons_of_mem _ (List.mem_append_left _ (List.mem_append_left _ (List.mem_of_getElem? (i := 2) rfl))))) (fun _ h9 => h9) rfl dX8_cutNow_45 ?_
    refine lv_iconst (v := 2) hx hb dX8_cutNow_48 (by decide) ?_
    refine lv_iconst (v := 2) hx hb dX8_cutNow_49 (by decide) ?_
    refine lv_iload_n hx hb dX8_cutNow_50 rfl (lv_at hl 2 rfl) ?_
    refine lv_imul hx hb dX8_cutNow_51 ?_
    refine lv_iadd hx hb dX8_cutNow_52 ?_
    refine lv_aload_n hx hb dX8_cutNow_53 rfl (lv_at hl 0 rfl) ?_
    refine lv_iload_n hx hb dX8_cutNow_54 rfl (lv_at hl 2 rfl) ?_
    obtain ⟨r55, hg55, hf⟩ := o_b1_go hf
    refine g_callVi (wn := (ww_X8_cutNow cI cM a_this a_this_all a_this_past a_this_refused a_this_box a_this_row a_this_text a_this_numbers a_this_before v_states v_empty v_cut v_rowMany v_taken v_found v_textLong v_at v_stopped (upd v_all (1 + (2 * x2)).toNatClampNeg r40) v_box)) (rest := [.int (2 + (2 * x2)), .ref a_this_all]) ⟨hx, hb, hml, hown, hts⟩ (c_X8_high l D cI cM a_this a_this_all a_this_past a_this_refused a_this_box a_this_row a_this_text a_this_numbers a_this_before H.size v_states v_empty v_cut v_rowMany v_taken v_found v_textLong v_at v_stopped v_box hg55) (cwV 1 hts gX8_cutNow_X8_high rfl rfl rfl (by decide +kernel) ⟨Nat.le_of_ble_eq_true rfl, Nat.le_of_ble_eq_true rfl⟩) hK hP hD hS hA [0, 2] [1] [1, 0, 2] rfl rfl rfl rfl rfl rfl (by decide) rfl rfl rfl hl.1 rfl (Nat.le_of_ble_eq_true rfl) dX8_cutNow_55 (fun H locs hP hD hS => ?_)
    obtain ⟨h58, hf⟩ := o_in_go hf
    refine va_iast hx hb hK hP hD hS 1 0 rfl rfl h58 dX8_cutNow_58 (fun H locs hP hD hS => ?_)
    replace hP : va_P D vwCl (ww_X8_cutNow cI cM a_this a_this_all a_this_past a_this_refused a_this_box a_this_row a_this_text a_this_numbers a_this_before v_states v_empty v_cut v_rowMany v_taken v_found v_textLong v_at v_stopped (upd (upd v_all (1 + (2 * x2)).toNatClampNeg r40) (2 + (2 * x2)).toNatClampNeg r55) v_box) H := hP
    replace hD : va_D A (ww_X8_cutNow cI cM a_this a_this_all a_this_past a_this_refused a_this_box a_this_row a_this_text a_this_numbers a_this_before v_states v_empty v_cut v_rowMany v_taken v_found v_textLong v_at v_stopped (upd (upd v_all (1 + (2 * x2)).toNatClampNeg r40) (2 + (2 * x2)).toNatClampNeg r55) v_box) := hD
    refine lv_iinc (v := x2 + 1) (lv' := [(2, .int (x2 + 1)), (0, .ref a_this), (1, .int x1)]) hx hb dX8_cutNow_59 hl (k := 2) rfl rfl (by decide) rfl (fun ls hl => ?_)
    refine lv_goto (tgt := 21) hx hb dX8_cutNow_62 (by decide) ?_
    exact hk21 v_empty v_cut (upd (upd v_all (1 + (2 * x2)).toNatClampNeg r40) (2 + (2 * x2)).toNatClampNeg r55) v_box x1 (x2 + 1) H locs ls hf hP hD hS (lv_sub hl [1, 2, 0] rfl)
set_option maxHeartbeats 4000000 in
set_option maxRecDepth 100000 in
theorem w_X8_cutNow_L21 {p : Program} {l : Launch} {e : Env} {s : State} {m : MethodId} {args : Array Value} {below : List Frame} {meth : Method} {c : Code} {D : va_G} {cI cM : ClassId} {A : Nat → Prop} {a_this a_this_all a_this_past a_this_refused a_this_box a_this_row a_this_text a_this_numbers a_this_before : Nat} {v_states : Int32} {v_rowMany : Int32} {v_taken : Int32} {v_found : Int32} {v_textLong : Int32} {v_at : Int32} {v_stopped : Int32} {N : Nat} {r : Int32} {o_empty : Int32} {o_cut : Int32} {o_all : Nat → Int32} {o_box : Nat → Int32} (C0 : g_cx cX8_cutNow (some .int) 3 RX8 wsX8_cutNow p s m args meth c) (hA : ∀ q, s.heap.size ≤ q → A q) (hK : va_K D vwCl (g_tys cI cM) s) : ∀ n : Nat, ∀ (v_empty : Int32) (v_cut : Int32) (v_all : Nat → Int32) (v_box : Nat → Int32) (x1 : Int32) (x2 : Int32) (H : Heap) (locs : List Loc) (ls : Array Slot), f_X8_cutNow_L21 N n v_empty v_cut v_all v_box x1 x2 = some (r, o_empty, o_cut, o_all, o_box) → va_P D vwCl (ww_X8_cutNow cI cM a_this a_this_all a_this_past a_this_refused a_this_box a_this_row a_this_text a_this_numbers a_this_before v_states v_empty v_cut v_rowMany v_taken v_found v_textLong v_at v_stopped v_all v_box) H → va_D A (ww_X8_cutNow cI cM a_this a_this_all a_this_past a_this_refused a_this_box a_this_row a_this_text a_this_numbers a_this_before v_states v_empty v_cut v_rowMany v_taken v_found v_textLong v_at v_stopped v_all v_box) → va_S A s.heap H locs → lv_has ls 3 [(0, .ref a_this), (1, .int x1), (2, .int x2)] → W p l e rm_X8_cutNow s m args below meth c H locs 0 0 (MQ below (g_QI D (g_tys cI cM) A (ww_X8_cutNow cI cM a_this a_this_all a_this_past a_this_refused a_this_box a_this_row a_this_text a_this_numbers a_this_before v_states o_empty o_cut v_rowMany v_taken v_found v_textLong v_at v_stopped o_all o_box) r) args s 0 0 A) (F0 m 21 ls []) := by
  intro n
  induction n with
  | zero =>
    intro v_empty v_cut v_all v_box x1 x2 H locs ls hf
    exact absurd hf (fun h => nomatch h)
  | succ n ih =>
    intro v_empty v_cut v_all v_box x1 x2 H locs ls hf
    exact w_X8_cutNow_C21 C0 hA hK _ ih v_empty v_cut v_all v_box x1 x2 H locs ls hf
def f_X8_cutNow (N : Nat) (v_empty : Int32) (v_cut : Int32) (v_all : Nat → Int32) (v_box : Nat → Int32) : Option (Int32 × Int32 × Int32 × (Nat → Int32) × (Nat → Int32)) :=
  o_b2 (f_X8_laysBox N v_all v_empty v_box) (fun (v_empty_1 : Int32) (v_box_1 : Nat → Int32) =>
  o_b4 (f_X8_cutsAll N v_all v_empty_1 v_cut v_box_1) (fun (r5 : Int32) (v_empty_5 : Int32) (v_cut_5 : Int32) (v_box_5 : Nat → Int32) =>
  if v_empty_5 = 0 then
    f_X8_cutNow_L21 N N v_empty_5 v_cut_5 v_all v_box_5 r5 0
  else
    some ((-2139095049), v_empty_5, v_cut_5, v_all, v_box_5)))
set_option maxHeartbeats 4000000 in
set_option maxRecDepth 100000 in
theorem w_X8_cutNow_B0 {p : Program} {l : Launch} {e : Env} {s : State} {m : MethodId} {args : Array Value} {below : List Frame} {meth : Method} {c : Code} {D : va_G} {cI cM : ClassId} {A : Nat → Prop} {a_this a_this_all a_this_past a_this_refused a_this_box a_this_row a_this_text a_this_numbers a_this_before : Nat} {v_states : Int32} {v_rowMany : Int32} {v_taken : Int32} {v_found : Int32} {v_textLong : Int32} {v_at : Int32} {v_stopped : Int32} {N : Nat} {r : Int32} {o_empty : Int32} {o_cut : Int32} {o_all : Nat → Int32} {o_box : Nat → Int32} (C0 : g_cx cX8_cutNow (some .int) 3 RX8 wsX8_cutNow p s m args meth c) (hA : ∀ q, s.heap.size ≤ q → A q) (hK : va_K D vwCl (g_tys cI cM) s) : ∀ (v_empty : Int32) (v_cut : Int32) (v_all : Nat → Int32) (v_box : Nat → Int32) (H : Heap) (locs : List Loc) (ls : Array Slot), f_X8_cutNow N v_empty v_cut v_all v_box = some (r, o_empty, o_cut, o_all, o_box) → va_P D vwCl (ww_X8_cutNow cI cM a_this a_this_all a_this_past a_this_refused a_this_box a_this_row a_this_text a_this_numbers a_this_before v_states v_empty v_cut v_rowMany v_taken v_found v_textLong v_at v_stopped v_all v_box) H → va_D A (ww_X8_cutNow cI cM a_this a_this_all a_this_past a_this_refused a_this_box a_this_row a_this_text a_this_numbers a_this_before v_states v_empty v_cut v_rowMany v_taken v_found v_textLong v_at v_stopped v_all v_box) → va_S A s.heap H locs → lv_has ls 3 [(0, .ref a_this)] → W p l e rm_X8_cutNow s m args below meth c H locs 0 0 (MQ below (g_QI D (g_tys cI cM) A (ww_X8_cutNow cI cM a_this a_this_all a_this_past a_this_refused a_this_box a_this_row a_this_text a_this_numbers a_this_before v_states o_empty o_cut v_rowMany v_taken v_found v_textLong v_at v_stopped o_all o_box) r) args s 0 0 A) (F0 m 0 ls []) := by
  obtain ⟨hx, hb, hr, hml, hown, hts, hlocks⟩ := id C0
  intro v_empty v_cut v_all v_box H locs ls hf hP hD hS hl
  unfold f_X8_cutNow at hf
  refine lv_aload_n hx hb dX8_cutNow_0 rfl (lv_at hl 0 rfl) ?_
  obtain ⟨v_empty_1, v_box_1, hg1, hf⟩ := o_b2_go hf
  refine g_callVv (wn := (ww_X8_cutNow cI cM a_this a_this_all a_this_past a_this_refused a_this_box a_this_row a_this_text a_this_numbers a_this_before v_states v_empty_1 v_cut v_rowMany v_taken v_found v_textLong v_at v_stopped v_all v_box_1)) (rest := []) ⟨hx, hb, hml, hown, hts⟩ (c_X8_laysBox l D cI cM a_this a_this_all a_this_past a_this_refused a_this_box a_this_row a_this_text a_this_numbers a_this_before H.size v_states v_empty v_cut v_rowMany v_taken v_found v_textLong v_at v_stopped v_all v_box hg1) (cwV 0 hts gX8_cutNow_X8_laysBox rfl rfl rfl (by decide +kernel) ⟨Nat.le_of_ble_eq_true rfl, Nat.le_of_ble_eq_true rfl⟩) hK hP hD hS hA [0, 1, 2] [] [0, 1, 2] rfl rfl rfl rfl rfl rfl (by decide) rfl rfl rfl hl.1 rfl (Nat.le_of_ble_eq_true rfl) dX8_cutNow_1 (fun H locs hP hD hS => ?_)
  refine lv_aload_n hx hb dX8_cutNow_4 rfl (lv_at hl 0 rfl) ?_
  obtain ⟨r5, v_empty_5, v_cut_5, v_box_5, hg5, hf⟩ := o_b4_go hf
  refine g_callVi (wn := (ww_X8_cutNow cI cM a_this a_this_all a_this_past a_this_refused a_this_box a_this_row a_this_text a_this_numbers a_this_before v_states v_empty_5 v_cut_5 v_rowMany v_taken v_found v_textLong v_at v_stopped v_all v_box_5)) (rest := []) ⟨hx, hb, hml, hown, hts⟩ (c_X8_cutsAll l D cI cM a_this a_this_all a_this_past a_this_refused a_this_box a_this_row a_this_text a_this_numbers a_this_before H.size v_states v_empty_1 v_cut v_rowMany v_taken v_found v_textLong v_at v_stopped v_all v_box_1 hg5) (cwV 0 hts gX8_cutNow_X8_cutsAll rfl rfl rfl (by decide +kernel) ⟨Nat.le_of_ble_eq_true rfl, Nat.le_of_ble_eq_true rfl⟩) hK hP hD hS hA [0, 1, 2] [] [0, 1, 2] rfl rfl rfl rfl rfl rfl (by decide) rfl rfl rfl hl.1 rfl (Nat.le_of_ble_eq_true rfl) dX8_cutNow_5 (fun H locs hP hD hS => ?_)
  refine lv_istore_n (lv' := [(1, .int r5), (0, .ref a_this)]) hx hb dX8_cutNow_8 rfl hl (by decide) rfl (fun ls hl => ?_)
  refine lv_aload_n hx hb dX8_cutNow_9 rfl (lv_at hl 1 rfl) ?_
  refine va_get (D := D) (ci := 6) (v := .int v_empty_5) (C := RX8) (T := TX8) (N := 17) hx hb hts (fun _ h => (List.mem_cons_of_mem _ (List.mem_append_right _ h))) hown hK hP 0 rfl rfl 5 (by decide) (hts (.fieldLink RX8 124 "FloatBoxesModel" "empty" "Z") (List.mem_cons_of_mem _ (List.mem_append_left _ (List.mem_append_left _ (List.mem_of_getElem? (i := 0) rfl))))) (fun _ h9 => h9) rfl dX8_cutNow_10 ?_
  refine lv_if_eq (tgt := 19) hx hb dX8_cutNow_13 (by decide) (fun c13 => ?_) (fun c13 => ?_)
  · replace hf := o_t c13 hf
    refine lv_iconst (v := 0) hx hb dX8_cutNow_19 (by decide) ?_
    refine lv_istore_n (lv' := [(2, .int 0), (1, .int r5), (0, .ref a_this)]) hx hb dX8_cutNow_20 rfl hl (by decide) rfl (fun ls hl => ?_)
    exact w_X8_cutNow_L21 C0 hA hK N v_empty_5 v_cut_5 v_all v_box_5 r5 0 H locs ls hf hP hD hS (lv_sub hl [2, 1, 0] rfl)
  · replace hf := o_f c13 hf
    refine lv_ldc (v := (-2139095049)) hx hb hown (hts (.constant RX8 221 (-2139095049)) (List.mem_cons_of_mem _ (List.mem_append_left _ (List.mem_append_left _ (List.mem_of_getElem? (i := 1) rfl))))) dX8_cutNow_16 ?_
    obtain ⟨q0, y0⟩ := o_rp hf
    obtain ⟨q1, y1⟩ := o_rp y0
    obtain ⟨q2, y2⟩ := o_rp y1
    obtain ⟨q3, y3⟩ := o_rp y2
    have q4 := Option.some.inj y3
    subst q0 q1 q2 q3 q4
    exact g_iret hx hb hr hlocks hP hD hK hS dX8_cutNow_18
set_option maxHeartbeats 4000000 in
set_option maxRecDepth 100000 in
theorem c_X8_cutNow (l : Launch) (D : va_G) (cI cM : ClassId) (a_this a_this_all a_this_past a_this_refused a_this_box a_this_row a_this_text a_this_numbers a_this_before : Nat) (sz : Nat) (v_states : Int32) (v_empty : Int32) (v_cut : Int32) (v_rowMany : Int32) (v_taken : Int32) (v_found : Int32) (v_textLong : Int32) (v_at : Int32) (v_stopped : Int32) (v_all : Nat → Int32) (v_box : Nat → Int32) {N : Nat} {r : Int32} {o_empty : Int32} {o_cut : Int32} {o_all : Nat → Int32} {o_box : Nat → Int32} (hf : f_X8_cutNow N v_empty v_cut v_all v_box = some (r, o_empty, o_cut, o_all, o_box)) : Met l yX8_cutNow wsX8_cutNow rm_X8_cutNow (g_Pc D (g_tys cI cM) (ww_X8_cutNow cI cM a_this a_this_all a_this_past a_this_refused a_this_box a_this_row a_this_text a_this_numbers a_this_before v_states v_empty v_cut v_rowMany v_taken v_found v_textLong v_at v_stopped v_all v_box) sz [.ref a_this]) (g_QI D (g_tys cI cM) (va_A (ww_X8_cutNow cI cM a_this a_this_all a_this_past a_this_refused a_this_box a_this_row a_this_text a_this_numbers a_this_before v_states v_empty v_cut v_rowMany v_taken v_found v_textLong v_at v_stopped v_all v_box) sz) (ww_X8_cutNow cI cM a_this a_this_all a_this_past a_this_refused a_this_box a_this_row a_this_text a_this_numbers a_this_before v_states o_empty o_cut v_rowMany v_taken v_found v_textLong v_at v_stopped o_all o_box) r) 0 0 (va_A (ww_X8_cutNow cI cM a_this a_this_all a_this_past a_this_refused a_this_box a_this_row a_this_text a_this_numbers a_this_before v_states v_empty v_cut v_rowMany v_taken v_found v_textLong v_at v_stopped v_all v_box) sz) := by
  refine g_met (cc := cX8_cutNow) (maxL := 3) (ret := (some .int)) (Qc := fun D A => g_QI D (g_tys cI cM) A (ww_X8_cutNow cI cM a_this a_this_all a_this_past a_this_refused a_this_box a_this_row a_this_text a_this_numbers a_this_before v_states o_empty o_cut v_rowMany v_taken v_found v_textLong v_at v_stopped o_all o_box) r) (by decide) rfl ?_
  intro p e s m below meth c A C0 hA hK hP hD
  have hl := lv_entry ([.ref a_this]) (n := 3) (Nat.le_of_ble_eq_true rfl)
  rw [lg_entry_eq]
  generalize (lg_sl ([.ref a_this]) ++ List.replicate (3 - (lg_sl ([.ref a_this])).length) Slot.unset).toArray = ls at hl ⊢
  have hl : lv_has ls 3 [(0, .ref a_this)] := hl
  exact w_X8_cutNow_B0 C0 hA hK v_empty v_cut v_all v_box s.heap [] ls hf hP hD va_S.rf (lv_sub hl [0] rfl)
