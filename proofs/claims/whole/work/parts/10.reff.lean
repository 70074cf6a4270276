/-! FloatBoxesModel.cuts()I -/
abbrev rm_X8_cuts : Room := { frames := 12, cells := 0, slots := 0, locals := 292 }
abbrev ww_X8_cuts (cI cM : ClassId) (a_this a_this_all a_this_past a_this_refused a_this_box a_this_row a_this_text a_this_numbers a_this_before : Nat) (v_states : Int32) (v_empty : Int32) (v_cut : Int32) (v_rowMany : Int32) (v_taken : Int32) (v_found : Int32) (v_textLong : Int32) (v_at : Int32) (v_stopped : Int32) (v_all : Nat → Int32) (v_past : Nat → Int32) (v_box : Nat → Int32) : va_W := [(a_this, .inr (6, [.ref a_this_all, .ref a_this_past, .int v_states, .ref a_this_refused, .ref a_this_box, .int v_empty, .int v_cut, .ref a_this_row, .int v_rowMany, .int v_taken, .int v_found, .ref a_this_text, .int v_textLong, .int v_at, .ref a_this_numbers, .int v_stopped, .ref a_this_before])), (a_this_all, .inl (cI, 38, .inl v_all)), (a_this_past, .inl (cI, 190, .inl v_past)), (a_this_box, .inl (cI, 12, .inl v_box))]
def f_X8_cuts (N : Nat) (v_states : Int32) (v_empty : Int32) (v_cut : Int32) (v_all : Nat → Int32) (v_past : Nat → Int32) (v_box : Nat → Int32) : Option (Int32 × Int32 × Int32 × Int32 × (Nat → Int32) × (Nat → Int32) × (Nat → Int32)) :=
  o_b2 (f_X8_keep N v_all v_states v_past) (fun (v_states_1 : Int32) (v_past_1 : Nat → Int32) =>
  o_b5 (f_X8_cutNow N v_empty v_cut v_all v_box) (fun (r5 : Int32) (v_empty_5 : Int32) (v_cut_5 : Int32) (v_all_5 : Nat → Int32) (v_box_5 : Nat → Int32) =>
  some (r5, v_states_1, v_empty_5, v_cut_5, v_all_5, v_past_1, v_box_5)))
set_option maxHeartbeats 4000000 in
set_option maxRecDepth 100000 in
theorem w_X8_cuts_B0 {p : Program} {l : Launch} {e : Env} {s : State} {m : MethodId} {args : Array Value} {below : List Frame} {meth : Method} {c : Code} {D : va_G} {cI cM : ClassId} {A : Nat → Prop} {a_this a_this_all a_this_past a_this_refused a_this_box a_this_row a_this_text a_this_numbers a_this_before : Nat} {v_rowMany : Int32} {v_taken : Int32} {v_found : Int32} {v_textLong : Int32} {v_at : Int32} {v_stopped : Int32} {N : Nat} {r : Int32} {o_states : Int32} {o_empty : Int32} {o_cut : Int32} {o_all : Nat → Int32} {o_past : Nat → Int32} {o_box : Nat → Int32} (C0 : g_cx cX8_cuts (some .int) 1 RX8 wsX8_cuts p s m args meth c) (hA : ∀ q, s.heap.size ≤ q → A q) (hK : va_K D vwCl (g_tys cI cM) s) : ∀ (v_states : Int32) (v_empty : Int32) (v_cut : Int32) (v_all : Nat → Int32) (v_past : Nat → Int32) (v_box : Nat → Int32) (H : Heap) (locs : List Loc) (ls : Array Slot), f_X8_cuts N v_states v_empty v_cut v_all v_past v_box = some (r, o_states, o_empty, o_cut, o_all, o_past, o_box) → va_P D vwCl (ww_X8_cuts cI cM a_this a_this_all a_this_past a_this_refused a_this_box a_this_row a_this_text a_this_numbers a_this_before v_states v_empty v_cut v_rowMany v_taken v_found v_textLong v_at v_stopped v_all v_past v_box) H → va_D A (ww_X8_cuts cI cM a_this a_this_all a_this_past a_this_refused a_this_box a_this_row a_this_text a_this_numbers a_this_before v_states v_empty v_cut v_rowMany v_taken v_found v_textLong v_at v_stopped v_all v_past v_box) → va_S A s.heap H locs → lv_has ls 1 [(0, .ref a_this)] → W p l e rm_X8_cuts s m args below meth c H locs 0 0 (MQ below (g_QI D (g_tys cI cM) A (ww_X8_cuts cI cM a_this a_this_all a_this_past a_this_refused a_this_box a_this_row a_this_text a_this_numbers a_this_before o_states o_empty o_cut v_rowMany v_taken v_found v_textLong v_at v_stopped o_all o_past o_box) r) args s 0 0 A) (F0 m 0 ls []) := by
  obtain ⟨hx, hb, hr, hml, hown, hts, hlocks⟩ := id C0
  intro v_states v_empty v_cut v_all v_past v_box H locs ls hf hP hD hS hl
  unfold f_X8_cuts at hf
  refine lv_aload_n hx hb dX8_cuts_0 rfl (lv_at hl 0 rfl) ?_
  obtain ⟨v_states_1, v_past_1, hg1, hf⟩ := o_b2_go hf
  refine g_callVv (wn := (ww_X8_cuts cI cM a_this a_this_all a_this_past a_this_refused a_this_box a_this_row a_this_text a_this_numbers a_this_before v_states_1 v_empty v_cut v_rowMany v_taken v_found v_textLong v_at v_stopped v_all v_past_1 v_box)) (rest := []) ⟨hx, hb, hml, hown, hts⟩ (c_X8_keep l D cI cM a_this a_this_all a_this_past a_this_refused a_this_box a_this_row a_this_text a_this_numbers a_this_before H.size v_states v_empty v_cut v_rowMany v_taken v_found v_textLong v_at v_stopped v_all v_past hg1) (cwV 0 hts gX8_cuts_X8_keep rfl rfl rfl (by decide +kernel) ⟨Nat.le_of_ble_eq_true rfl, Nat.le_of_ble_eq_true rfl⟩) hK hP hD hS hA [0, 1, 2] [3] [1, 2, 3, 0] rfl rfl rfl rfl rfl rfl (by decide) rfl rfl rfl hl.1 rfl (Nat.le_of_ble_eq_true rfl) dX8_cuts_1 (fun H locs hP hD hS => ?_)
  refine lv_aload_n hx hb dX8_cuts_4 rfl (lv_at hl 0 rfl) ?_
  obtain ⟨r5, v_empty_5, v_cut_5, v_all_5, v_box_5, hg5, hf⟩ := o_b5_go hf
  refine g_callVi (wn := (ww_X8_cuts cI cM a_this a_this_all a_this_past a_this_refused a_this_box a_this_row a_this_text a_this_numbers a_this_before v_states_1 v_empty_5 v_cut_5 v_rowMany v_taken v_found v_textLong v_at v_stopped v_all_5 v_past_1 v_box_5)) (rest := []) ⟨hx, hb, hml, hown, hts⟩ (c_X8_cutNow l D cI cM a_this a_this_all a_this_past a_this_refused a_this_box a_this_row a_this_text a_this_numbers a_this_before H.size v_states_1 v_empty v_cut v_rowMany v_taken v_found v_textLong v_at v_stopped v_all v_box hg5) (cwV 0 hts gX8_cuts_X8_cutNow rfl rfl rfl (by decide +kernel) ⟨Nat.le_of_ble_eq_true rfl, Nat.le_of_ble_eq_true rfl⟩) hK hP hD hS hA [0, 1, 3] [2] [1, 2, 0, 3] rfl rfl rfl rfl rfl rfl (by decide) rfl rfl rfl hl.1 rfl (Nat.le_of_ble_eq_true rfl) dX8_cuts_5 (fun H locs hP hD hS => ?_)
  obtain ⟨q0, y0⟩ := o_rp hf
  obtain ⟨q1, y1⟩ := o_rp y0
  obtain ⟨q2, y2⟩ := o_rp y1
  obtain ⟨q3, y3⟩ := o_rp y2
  obtain ⟨q4, y4⟩ := o_rp y3
  obtain ⟨q5, y5⟩ := o_rp y4
  have q6 := Option.some.inj y5
  subst q0 q1 q2 q3 q4 q5 q6
  exact g_iret hx hb hr hlocks hP hD hK hS dX8_cuts_8
set_option maxHeartbeats 4000000 in
set_option maxRecDepth 100000 in
theorem c_X8_cuts (l : Launch) (D : va_G) (cI cM : ClassId) (a_this a_this_all a_this_past a_this_refused a_this_box a_this_row a_this_text a_this_numbers a_this_before : Nat) (sz : Nat) (v_states : Int32) (v_empty : Int32) (v_cut : Int32) (v_rowMany : Int32) (v_taken : Int32) (v_found : Int32) (v_textLong : Int32) (v_at : Int32) (v_stopped : Int32) (v_all : Nat → Int32) (v_past : Nat → Int32) (v_box : Nat → Int32) {N : Nat} {r : Int32} {o_states : Int32} {o_empty : Int32} {o_cut : Int32} {o_all : Nat → Int32} {o_past : Nat → Int32} {o_box : Nat → Int32} (hf : f_X8_cuts N v_states v_empty v_cut v_all v_past v_box = some (r, o_states, o_empty, o_cut, o_all, o_past, o_box)) : Met l yX8_cuts wsX8_cuts rm_X8_cuts (g_Pc D (g_tys cI cM) (ww_X8_cuts cI cM a_this a_this_all a_this_past a_this_refused a_this_box a_this_row a_this_text a_this_numbers a_this_before v_states v_empty v_cut v_rowMany v_taken v_found v_textLong v_at v_stopped v_all v_past v_box) sz [.ref a_this]) (g_QI D (g_tys cI cM) (va_A (ww_X8_cuts cI cM a_this a_this_all a_this_past a_this_refused a_this_box a_this_row a_this_text a_this_numbers a_this_before v_states v_empty v_cut v_rowMany v_taken v_found v_textLong v_at v_stopped v_all v_past v_box) sz) (ww_X8_cuts cI cM a_this a_this_all a_this_past a_this_refused a_this_box a_this_row a_this_text a_this_numbers a_this_before o_states o_empty o_cut v_rowMany v_taken v_found v_textLong v_at v_stopped o_all o_past o_box) r) 0 0 (va_A (ww_X8_cuts cI cM a_this a_this_all a_this_past a_this_refused a_this_box a_this_row a_this_text a_this_numbers a_this_before v_states v_empty v_cut v_rowMany v_taken v_found v_textLong v_at v_stopped v_all v_past v_box) sz) := by
  refine g_met (cc := cX8_cuts) (maxL := 1) (ret := (some .int)) (Qc := fun D A => g_QI D (g_tys cI cM) A (ww_X8_cuts cI cM a_this a_this_all a_this_past a_this_refused a_this_box a_this_row a_this_text a_this_numbers a_this_before o_states o_empty o_cut v_rowMany v_taken v_found v_textLong v_at v_stopped o_all o_past o_box) r) (by decide) rfl ?_
  intro p e s m below meth c A C0 hA hK hP hD
  have hl := lv_entry ([.ref a_this]) (n := 1) (Nat.le_of_ble_eq_true rfl)
  rw [lg_entry_eq]
  generalize (lg_sl ([.ref a_this]) ++ List.replicate (1 - (lg_sl ([.ref a_this])).length) Slot.unset).toArray = ls at hl ⊢
  have hl : lv_has ls 1 [(0, .ref a_this)] := hl
  exact w_X8_cuts_B0 C0 hA hK v_states v_empty v_cut v_all v_past v_box s.heap [] ls hf hP hD va_S.rf (lv_sub hl [0] rfl)
/-! FloatBoxesModel.of(II)I -/
abbrev rm_X8_of : Room := { frames := 2, cells := 0, slots := 0, locals := 46 }
abbrev ww_X8_of (cI cM : ClassId) (a_this a_this_all a_this_past a_this_refused a_this_box a_this_row a_this_text a_this_numbers a_this_before : Nat) (v_states : Int32) (v_empty : Int32) (v_cut : Int32) (v_rowMany : Int32) (v_taken : Int32) (v_found : Int32) (v_textLong : Int32) (v_at : Int32) (v_stopped : Int32) (v_all : Nat → Int32) (v_refused : Nat → Int32) : va_W := [(a_this, .inr (6, [.ref a_this_all, .ref a_this_past, .int v_states, .ref a_this_refused, .ref a_this_box, .int v_empty, .int v_cut, .ref a_this_row, .int v_rowMany, .int v_taken, .int v_found, .ref a_this_text, .int v_textLong, .int v_at, .ref a_this_numbers, .int v_stopped, .ref a_this_before])), (a_this_all, .inl (cI, 38, .inl v_all)), (a_this_refused, .inl (cI, 3, .inl v_refused))]
def f_X8_of_B38 (v_all : Nat → Int32) (v_refused : Nat → Int32) : Option (Int32 × (Nat → Int32)) :=
  o_b2 (f_X8_refuses v_refused ((-2139095050))) (fun (r41 : Int32) (v_refused_41 : Nat → Int32) =>
  some (r41, v_refused_41))
set_option maxHeartbeats 4000000 in
set_option maxRecDepth 100000 in
theorem w_X8_of_B38 {p : Program} {l : Launch} {e : Env} {s : State} {m : MethodId} {args : Array Value} {below : List Frame} {meth : Method} {c : Code} {D : va_G} {cI cM : ClassId} {A : Nat → Prop} {a_this a_this_all a_this_past a_this_refused a_this_box a_this_row a_this_text a_this_numbers a_this_before : Nat} {v_states : Int32} {v_empty : Int32} {v_cut : Int32} {v_rowMany : Int32} {v_taken : Int32} {v_found : Int32} {v_textLong : Int32} {v_at : Int32} {v_stopped : Int32} {v_all : Nat → Int32} {r : Int32} {o_refused : Nat → Int32} (C0 : g_cx cX8_of (some .int) 3 RX8 wsX8_of p s m args meth c) (hA : ∀ q, s.heap.size ≤ q → A q) (hK : va_K D vwCl (g_tys cI cM) s) : ∀ (v_refused : Nat → Int32) (H : Heap) (locs : List Loc) (ls : Array Slot), f_X8_of_B38 v_all v_refused = some (r, o_refused) → va_P D vwCl (ww_X8_of cI cM a_this a_this_all a_this_past a_this_refused a_this_box a_this_row a_this_text a_this_numbers a_this_before v_states v_empty v_cut v_rowMany v_taken v_found v_textLong v_at v_stopped v_all v_refused) H → va_D A (ww_X8_of cI cM a_this a_this_all a_this_past a_this_refused a_this_box a_this_row a_this_text a_this_numbers a_this_before v_states v_empty v_cut v_rowMany v_taken v_found v_textLong v_at v_stopped v_all v_refused) → va_S A s.heap H locs → lv_has ls 3 [(0, .ref a_this)] → W p l e rm_X8_of s m args below meth c H locs 0 0 (MQ below (g_QI D (g_tys cI cM) A (ww_X8_of cI cM a_this a_this_all a_this_past a_this_refused a_this_box a_this_row a_this_text a_this_numbers a_this_before v_states v_empty v_cut v_rowMany v_taken v_found v_textLong v_at v_stopped v_all o_refused) r) args s 0 0 A) (F0 m 38 ls []) := by
  obtain ⟨hx, hb, hr, hml, hown, hts, hlocks⟩ := id C0
  intro v_refused H locs ls hf hP hD hS hl
  unfold f_X8_of_B38 at hf
  refine lv_aload_n hx hb dX8_of_38 rfl (lv_at hl 0 rfl) ?_
  refine lv_ldc (v := (-2139095050)) hx hb hown (hts (.constant RX8 42 (-2139095050)) (List.mem_cons_of_mem _ (List.mem_append_left _ (List.mem_append_left _ (List.mem_of_getElem? (i := 0) rfl))))) dX8_of_39 ?_
  obtain ⟨r41, v_refused_41, hg41, hf⟩ := o_b2_go hf
  refine g_callVi (wn := (ww_X8_of cI cM a_this a_this_all a_this_past a_this_refused a_this_box a_this_row a_this_text a_this_numbers a_this_before v_states v_empty v_cut v_rowMany v_taken v_found v_textLong v_at v_stopped v_all v_refused_41)) (rest := []) ⟨hx, hb, hml, hown, hts⟩ (c_X8_refuses l D cI cM a_this a_this_all a_this_past a_this_refused a_this_box a_this_row a_this_text a_this_numbers a_this_before H.size v_states v_empty v_cut v_rowMany v_taken v_found v_textLong v_at v_stopped v_refused hg41) (cwV 1 hts gX8_of_X8_refuses rfl rfl rfl (by decide +kernel) ⟨Nat.le_of_ble_eq_true rfl, Nat.le_of_ble_eq_true rfl⟩) hK hP hD hS hA [0, 2] [1] [1, 0, 2] rfl rfl rfl rfl rfl rfl (by decide) rfl rfl rfl hl.1 rfl (Nat.le_of_ble_eq_true rfl) dX8_of_41 (fun H locs hP hD hS => ?_)
  obtain ⟨q0, y0⟩ := o_rp hf
  have q1 := Option.some.inj y0
  subst q0 q1
  exact g_iret hx hb hr hlocks hP hD hK hS dX8_of_44
def f_X8_of (v_all : Nat → Int32) (v_refused : Nat → Int32) (x1 : Int32) (x2 : Int32) : Option (Int32 × (Nat → Int32)) :=
  o_b1 (f_X8_isUnknown v_all x1) (fun (r2 : Int32) =>
  if r2 = 0 then
    f_X8_of_B38 v_all v_refused
  else
    o_b1 (f_X8_in x2.toInt64 0 1) (fun (r12 : Int32) =>
    if r12 = 0 then
      f_X8_of_B38 v_all v_refused
    else
      if x2 = 0 then
        o_b1 (f_X8_lowAt v_all x1) (fun (r24 : Int32) =>
        some (r24, v_refused))
      else
        o_b1 (f_X8_highAt v_all x1) (fun (r32 : Int32) =>
        some (r32, v_refused))))
set_option maxHeartbeats 4000000 in
set_option maxRecDepth 100000 in
theorem w_X8_of_B0 {p : Program} {l : Launch} {e : Env} {s : State} {m : MethodId} {args : Array Value} {below : List Frame} {meth : Method} {c : Code} {D : va_G} {cI cM : ClassId} {A : Nat → Prop} {a_this a_this_all a_this_past a_this_refused a_this_box a_this_row a_this_text a_this_numbers a_this_before : Nat} {v_states : Int32} {v_empty : Int32} {v_cut : Int32} {v_rowMany : Int32} {v_taken : Int32} {v_found : Int32} {v_textLong : Int32} {v_at : Int32} {v_stopped : Int32} {v_all : Nat → Int32} {r : Int32} {o_refused : Nat → Int32} (C0 : g_cx cX8_of (some .int) 3 RX8 wsX8_of p s m args meth c) (hA : ∀ q, s.heap.size ≤ q → A q) (hK : va_K D vwCl (g_tys cI cM) s) : ∀ (v_refused : Nat → Int32) (x1 : Int32) (x2 : Int32) (H : Heap) (locs : List Loc) (ls : Array Slot), f_X8_of v_all v_refused x1 x2 = some (r, o_refused) → va_P D vwCl (ww_X8_of cI cM a_this a_this_all a_this_past a_this_refused a_this_box a_this_row a_this_text a_this_numbers a_this_before v_states v_empty v_cut v_rowMany v_taken v_found v_textLong v_at v_stopped v_all v_refused) H → va_D A (ww_X8_of cI cM a_this a_this_all a_this_past a_this_refused a_this_box a_this_row a_this_text a_this_numbers a_this_before v_states v_empty v_cut v_rowMany v_taken v_found v_textLong v_at v_stopped v_all v_refused) → va_S A s.heap H locs → lv_has ls 3 [(0, .ref a_this), (1, .int x1), (2, .int x2)] → W p l e rm_X8_of s m args below meth c H locs 0 0 (MQ below (g_QI D (g_tys cI cM) A (ww_X8_of cI cM a_this a_this_all a_this_past a_this_refused a_this_box a_this_row a_this_text a_this_numbers a_this_before v_states v_empty v_cut v_rowMany v_taken v_found v_textLong v_at v_stopped v_all o_refused) r) args s 0 0 A) (F0 m 0 ls []) := by
  obtain ⟨hx, hb, hr, hml, hown, hts, hlocks⟩ := id C0
  intro v_refused x1 x2 H locs ls hf hP hD hS hl
  unfold f_X8_of at hf
  refine lv_aload_n hx hb dX8_of_0 rfl (lv_at hl 0 rfl) ?_
  refine lv_iload_n hx hb dX8_of_1 rfl (lv_at hl 1 rfl) ?_
  obtain ⟨r2, hg2, hf⟩ := o_b1_go hf
  refine g_callVi (wn := (ww_X8_of cI cM a_this a_this_all a_this_past a_this_refused a_this_box a_this_row a_this_text a_this_numbers a_this_before v_states v_empty v_cut v_rowMany v_taken v_found v_textLong v_at v_stopped v_all v_refused)) (rest := []) ⟨hx, hb, hml, hown, hts⟩ (c_X8_isUnknown l D cI cM a_this a_this_all a_this_past a_this_refused a_this_box a_this_row a_this_text a_this_numbers a_this_before H.size v_states v_empty v_cut v_rowMany v_taken v_found v_textLong v_at v_stopped v_all hg2) (cwV 1 hts gX8_of_X8_isUnknown rfl rfl rfl (by decide +kernel) ⟨Nat.le_of_ble_eq_true rfl, Nat.le_of_ble_eq_true rfl⟩) hK hP hD hS hA [0, 1] [2] [1, 2, 0] rfl rfl rfl rfl rfl rfl (by decide) rfl rfl rfl hl.1 rfl (Nat.le_of_ble_eq_true rfl) dX8_of_2 (fun H locs hP hD hS => ?_)
  refine lv_if_eq (tgt := 38) hx hb dX8_of_5 (by decide) (fun c5 => ?_) (fun c5 => ?_)
  · replace hf := o_t c5 hf
    exact w_X8_of_B38 C0 hA hK v_refused H locs ls hf hP hD hS (lv_sub hl [0] rfl)
  · replace hf := o_f c5 hf
    refine lv_iload_n hx hb dX8_of_8 rfl (lv_at hl 2 rfl) ?_
    refine lv_i2l hx hb dX8_of_9 rfl ?_
    refine lv_lconst (v := 0) hx hb dX8_of_10 (by decide) ?_
    refine lv_lconst (v := 1) hx hb dX8_of_11 (by decide) ?_
    obtain ⟨r12, hg12, hf⟩ := o_b1_go hf
    refine g_callSi (rest := []) ⟨hx, hb, hml, hown, hts⟩ (c_X8_in l hg12) (va_cwS 3 hts gX8_of_X8_in rfl rfl rfl (by decide +kernel) ⟨Nat.le_of_ble_eq_true rfl, Nat.le_of_ble_eq_true rfl⟩) rfl hl.1 rfl (Nat.le_of_ble_eq_true rfl) dX8_of_12 ?_
    refine lv_if_eq (tgt := 38) hx hb dX8_of_15 (by decide) (fun c15 => ?_) (fun c15 => ?_)
    · replace hf := o_t c15 hf
      exact w_X8_of_B38 C0 hA hK v_refused H locs ls hf hP hD hS (lv_sub hl [0] rfl)
    · replace hf := o_f c15 hf
      refine lv_iload_n hx hb dX8_of_18 rfl (lv_at hl 2 rfl) ?_
      refine lv_if_ne (tgt := 30) hx hb dX8_of_19 (by decide) (fun c19 => ?_) (fun c19 => ?_)
      · replace hf := o_f c19 hf
        refine lv_aload_n hx hb dX8_of_30 rfl (lv_at hl 0 rfl) ?_
        refine lv_iload_n hx hb dX8_of_31 rfl (lv_at hl 1 rfl) ?_
        obtain ⟨r32, hg32, hf⟩ := o_b1_go hf
        refine g_callVi (wn := (ww_X8_of cI cM a_this a_this_all a_this_past a_this_refused a_this_box a_this_row a_this_text a_this_numbers a_this_before v_states v_empty v_cut v_rowMany v_taken v_found v_textLong v_at v_stopped v_all v_refused)) (rest := []) ⟨hx, hb, hml, hown, hts⟩ (c_X8_highAt l D cI cM a_this a_this_all a_this_past a_this_refused a_this_box a_this_row a_this_text a_this_numbers a_this_before H.size v_states v_empty v_cut v_rowMany v_taken v_found v_textLong v_at v_stopped v_all hg32) (cwV 1 hts gX8_of_X8_highAt rfl rfl rfl (by decide +kernel) ⟨Nat.le_of_ble_eq_true rfl, Nat.le_of_ble_eq_true rfl⟩) hK hP hD hS hA [0, 1] [2] [1, 2, 0] rfl rfl rfl rfl rfl rfl (by decide) rfl rfl rfl hl.1 rfl (Nat.le_of_ble_eq_true rfl) dX8_of_32 (fun H locs hP hD hS => ?_)
        refine lv_goto (tgt := 44) hx hb dX8_of_35 (by decide) ?_
        obtain ⟨q0, y0⟩ := o_rp hf
        have q1 := Option.some.inj y0
        subst q0 q1
        exact g_iret hx hb hr hlocks hP hD hK hS dX8_of_44
      · replace hf := o_t c19 hf
        refine lv_aload_n hx hb dX8_of_22 rfl (lv_at hl 0 rfl) ?_
        refine lv_iload_n hx hb dX8_of_23 rfl (lv_at hl 1 rfl) ?_
        obtain ⟨r24, hg24, hf⟩ := o_b1_go hf
        refine g_callVi (wn := (ww_X8_of cI cM a_this a_this_all a_this_past a_this_refused a_this_box a_this_row a_this_text a_this_numbers a_this_before v_states v_empty v_cut v_rowMany v_taken v_found v_textLong v_at v_stopped v_all v_refused)) (rest := []) ⟨hx, hb, hml, hown, hts⟩ (c_X8_lowAt l D cI cM a_this a_this_all a_this_past a_this_refused a_this_box a_this_row a_this_text a_this_numbers a_this_before H.size v_states v_empty v_cut v_rowMany v_taken v_found v_textLong v_at v_stopped v_all hg24) (cwV 1 hts gX8_of_X8_lowAt rfl rfl rfl (by decide +kernel) ⟨Nat.le_of_ble_eq_true rfl, Nat.le_of_ble_eq_true rfl⟩) hK hP hD hS hA [0, 1] [2] [1, 2, 0] rfl rfl rfl rfl rfl rfl (by decide) rfl rfl rfl hl.1 rfl (Nat.le_of_ble_eq_true rfl) dX8_of_24 (fun H locs hP hD hS => ?_)
        refine lv_goto (tgt := 44) hx hb dX8_of_27 (by decide) ?_
        obtain ⟨q0, y0⟩ := o_rp hf
        have q1 := Option.some.inj y0
        subst q0 q1
        exact g_iret hx hb hr hlocks hP hD hK hS dX8_of_44
set_option maxHeartbeats 4000000 in
set_option maxRecDepth 100000 in
theorem c_X8_of (l : Launch) (D : va_G) (cI cM : ClassId) (a_this a_this_all a_this_past a_this_refused a_this_box a_this_row a_this_text a_this_numbers a_this_before : Nat) (sz : Nat) (v_states : Int32) (v_empty : Int32) (v_cut : Int32) (v_rowMany : Int32) (v_taken : Int32) (v_found : Int32) (v_textLong : Int32) (v_at : Int32) (v_stopped : Int32) (v_all : Nat → Int32) (v_refused : Nat → Int32) {x1 : Int32} {x2 : Int32} {r : Int32} {o_refused : Nat → Int32} (hf : f_X8_of v_all v_refused x1 x2 = some (r, o_refused)) : Met l yX8_of wsX8_of rm_X8_of (g_Pc D (g_tys cI cM) (ww_X8_of cI cM a_this a_this_all a_this_past a_this_refused a_this_box a_this_row a_this_text a_this_numbers a_this_before v_states v_empty v_cut v_rowMany v_taken v_found v_textLong v_at v_stopped v_all v_refused) sz [.ref a_this, .int x1, .int x2]) (g_QI D (g_tys cI cM) (va_A (ww_X8_of cI cM a_this a_this_all a_this_past a_this_refused a_this_box a_this_row a_this_text a_this_numbers a_this_before v_states v_empty v_cut v_rowMany v_taken v_found v_textLong v_at v_stopped v_all v_refused) sz) (ww_X8_of cI cM a_this a_this_all a_this_past a_this_refused a_this_box a_this_row a_this_text a_this_numbers a_this_before v_states v_empty v_cut v_rowMany v_taken v_found v_textLong v_at v_stopped v_all o_refused) r) 0 0 (va_A (ww_X8_of cI cM a_this a_this_all a_this_past a_this_refused a_this_box a_this_row a_this_text a_this_numbers a_this_before v_states v_empty v_cut v_rowMany v_taken v_found v_textLong v_at v_stopped v_all v_refused) sz) := by
  refine g_met (cc := cX8_of) (maxL := 3) (ret := (some .int)) (Qc := fun D A => g_QI D (g_tys cI cM) A (ww_X8_of cI cM a_this a_this_all a_this_past a_this_refused a_this_box a_this_row a_this_text a_this_numbers a_this_before v_states v_empty v_cut v_rowMany v_taken v_found v_textLong v_at v_stopped v_all o_refused) r) (by decide) rfl ?_
  intro p e s m below meth c A C0 hA hK hP hD
  have hl := lv_entry ([.ref a_this, .int x1, .int x2]) (n := 3) (Nat.le_of_ble_eq_true rfl)
  rw [lg_entry_eq]
  generalize (lg_sl ([.ref a_this, .int x1, .int x2]) ++ List.replicate (3 - (lg_sl ([.ref a_this, .int x1, .int x2])).length) Slot.unset).toArray = ls at hl ⊢
  have hl : lv_has ls 3 [(0, .ref a_this), (1, .int x1), (2, .int x2)] := hl
  exact w_X8_of_B0 C0 hA hK v_refused x1 x2 s.heap [] ls hf hP hD va_S.rf (lv_sub hl [0, 1, 2] rfl)
/-! FloatBoxesModel.holding(I)J -/
abbrev rm_X8_holding : Room := { frames := 2, cells := 0, slots := 0, locals := 46 }
abbrev ww_X8_holding (cI cM : ClassId) (a_this a_this_all a_this_past a_this_refused a_this_box a_this_row a_this_text a_this_numbers a_this_before : Nat) (v_states : Int32) (v_empty : Int32) (v_cut : Int32) (v_rowMany : Int32) (v_taken : Int32) (v_found : Int32) (v_textLong : Int32) (v_at : Int32) (v_stopped : Int32) (v_all : Nat → Int32) (v_refused : Nat → Int32) : va_W := [(a_this, .inr (6, [.ref a_this_all, .ref a_this_past, .int v_states, .ref a_this_refused, .ref a_this_box, .int v_empty, .int v_cut, .ref a_this_row, .int v_rowMany, .int v_taken, .int v_found, .ref a_this_text, .int v_textLong, .int v_at, .ref a_this_numbers, .int v_stopped, .ref a_this_before])), (a_this_all, .inl (cI, 38, .inl v_all)), (a_this_refused, .inl (cI, 3, .inl v_refused))]
def f_X8_holding (v_all : Nat → Int32) (v_refused : Nat → Int32) (x1 : Int32) : Option (Int64 × (Nat → Int32)) :=
  o_b1 (f_X8_isUnknown v_all x1) (fun (r2 : Int32) =>
  if r2 = 0 then
    o_b2 (f_X8_refuses v_refused ((-2139095050))) (fun (r29 : Int32) (v_refused_29 : Nat → Int32) =>
    some (r29.toInt64, v_refused_29))
  else
    o_b1 (f_X8_highAt v_all x1) (fun (r11 : Int32) =>
    o_b1 (f_X8_lowAt v_all x1) (fun (r18 : Int32) =>
    some ((1 + r11.toInt64) - r18.toInt64, v_refused))))
set_option maxHeartbeats 4000000 in
set_option maxRecDepth 100000 in
theorem w_X8_holding_B0 {p : Program} {l : Launch} {e : Env} {s : State} {m : MethodId} {args : Array Value} {below : List Frame} {meth : Method} {c : Code} {D : va_G} {cI cM : ClassId} {A : Nat → Prop} {a_this a_this_all a_this_past a_this_refused a_this_box a_this_row a_this_text a_this_numbers a_this_before : Nat} {v_states : Int32} {v_empty : Int32} {v_cut : Int32} {v_rowMany : Int32} {v_taken : Int32} {v_found : Int32} {v_textLong : Int32} {v_at : Int32} {v_stopped : Int32} {v_all : Nat → Int32} {r : Int64} {o_refused : Nat → Int32} (C0 : g_cx cX8_holding (some .long) 2 RX8 wsX8_holding p s m args meth c) (hA : ∀ q, s.heap.size ≤ q → A q) (hK : va_K D vwCl (g_tys cI cM) s) : ∀ (v_refused : Nat → Int32) (x1 : Int32) (H : Heap) (locs : List Loc) (ls : Array Slot), f_X8_holding v_all v_refused x1 = some (r, o_refused) → va_P D vwCl (ww_X8_holding cI cM a_this a_this_all a_this_past a_this_refused a_this_box a_this_row a_this_text a_this_numbers a_this_before v_states v_empty v_cut v_rowMany v_taken v_found v_textLong v_at v_stopped v_all v_refused) H → va_D A (ww_X8_holding cI cM a_this a_this_all a_this_past a_this_refused a_this_box a_this_row a_this_text a_this_numbers a_this_before v_states v_empty v_cut v_rowMany v_taken v_found v_textLong v_at v_stopped v_all v_refused) → va_S A s.heap H locs → lv_has ls 2 [(0, .ref a_this), (1, .int x1)] → W p l e rm_X8_holding s m args below meth c H locs 0 0 (MQ below (g_QL D (g_tys cI cM) A (ww_X8_holding cI cM a_this a_this_all a_this_past a_this_refused a_this_box a_this_row a_this_text a_this_numbers a_this_before v_states v_empty v_cut v_rowMany v_taken v_found v_textLong v_at v_stopped v_all o_refused) r) args s 0 0 A) (F0 m 0 ls []) := by
  obtain ⟨hx, hb, hr, hml, hown, hts, hlocks⟩ := id C0
  intro v_refused x1 H locs ls hf hP hD hS hl
  unfold f_X8_holding at hf
  refine lv_aload_n hx hb dX8_holding_0 rfl (lv_at hl 0 rfl) ?_
  refine lv_iload_n hx hb dX8_holding_1 rfl (lv_at hl 1 rfl) ?_
  obtain ⟨r2, hg2, hf⟩ := o_b1_go hf
  refine g_callVi (wn := (ww_X8_holding cI cM a_this a_this_all a_this_past a_this_refused a_this_box a_this_row a_this_text a_this_numbers a_this_before v_states v_empty v_cut v_rowMany v_taken v_found v_textLong v_at v_stopped v_all v_refused)) (rest := []) ⟨hx, hb, hml, hown, hts⟩ (c_X8_isUnknown l D cI cM a_this a_this_all a_this_past a_this_refused a_this_box a_this_row a_this_text a_this_numbers a_this_before H.size v_states v_empty v_cut v_rowMany v_taken v_found v_textLong v_at v_stopped v_all hg2) (cwV 1 hts gX8_holding_X8_isUnknown rfl rfl rfl (by decide +kernel) ⟨Nat.le_of_ble_eq_true rfl, Nat.le_of_ble_eq_true rfl⟩) hK hP hD hS hA [0, 1] [2] [1, 2, 0] rfl rfl rfl rfl rfl rfl (by decide) rfl rfl rfl hl.1 rfl (Nat.le_of_ble_eq_true rfl) dX8_holding_2 (fun H locs hP hD hS => ?_)
  refine lv_if_eq (tgt := 26) hx hb dX8_holding_5 (by decide) (fun c5 => ?_) (fun c5 => ?_)
  · replace hf := o_t c5 hf
    refine lv_aload_n hx hb dX8_holding_26 rfl (lv_at hl 0 rfl) ?_
    refine lv_ldc (v := (-2139095050)) hx hb hown (hts (.constant RX8 42 (-2139095050)) (List.mem_cons_of_mem _ (List.mem_append_left _ (List.mem_append_left _ (List.mem_of_getElem? (i := 0) rfl))))) dX8_holding_27 ?_
    obtain ⟨r29, v_refused_29, hg29, hf⟩ := o_b2_go hf
    refine g_callVi (wn := (ww_X8_holding cI cM a_this a_this_all a_this_past a_this_refused a_this_box a_this_row a_this_text a_this_numbers a_this_before v_states v_empty v_cut v_rowMany v_taken v_found v_textLong v_at v_stopped v_all v_refused_29)) (rest := []) ⟨hx, hb, hml, hown, hts⟩ (c_X8_refuses l D cI cM a_this a_this_all a_this_past a_this_refused a_this_box a_this_row a_this_text a_this_numbers a_this_before H.size v_states v_empty v_cut v_rowMany v_taken v_found v_textLong v_at v_stopped v_refused hg29) (cwV 1 hts gX8_holding_X8_refuses rfl rfl rfl (by decide +kernel) ⟨Nat.le_of_ble_eq_true rfl, Nat.le_of_ble_eq_true rfl⟩) hK hP hD hS hA [0, 2] [1] [1, 0, 2] rfl rfl rfl rfl rfl rfl (by decide) rfl rfl rfl hl.1 rfl (Nat.le_of_ble_eq_true rfl) dX8_holding_29 (fun H locs hP hD hS => ?_)
    refine lv_i2l hx hb dX8_holding_32 rfl ?_
    obtain ⟨q0, y0⟩ := o_rp hf
    have q1 := Option.some.inj y0
    subst q0 q1
    exact g_lret hx hb hr hlocks hP hD hK hS dX8_holding_33
  · replace hf := o_f c5 hf
    refine lv_lconst (v := 1) hx hb dX8_holding_8 (by decide) ?_
    refine lv_aload_n hx hb dX8_holding_9 rfl (lv_at hl 0 rfl) ?_
    refine lv_iload_n hx hb dX8_holding_10 rfl (lv_at hl 1 rfl) ?_
    obtain ⟨r11, hg11, hf⟩ := o_b1_go hf
    refine g_callVi (wn := (ww_X8_holding cI cM a_this a_this_all a_this_past a_this_refused a_this_box a_this_row a_this_text a_this_numbers a_this_before v_states v_empty v_cut v_rowMany v_taken v_found v_textLong v_at v_stopped v_all v_refused)) (rest := [.long 1]) ⟨hx, hb, hml, hown, hts⟩ (c_X8_highAt l D cI cM a_this a_this_all a_this_past a_this_refused a_this_box a_this_row a_this_text a_this_numbers a_this_before H.size v_states v_empty v_cut v_rowMany v_taken v_found v_textLong v_at v_stopped v_all hg11) (cwV 1 hts gX8_holding_X8_highAt rfl rfl rfl (by decide +kernel) ⟨Nat.le_of_ble_eq_true rfl, Nat.le_of_ble_eq_true rfl⟩) hK hP hD hS hA [0, 1] [2] [1, 2, 0] rfl rfl rfl rfl rfl rfl (by decide) rfl rfl rfl hl.1 rfl (Nat.le_of_ble_eq_true rfl) dX8_holding_11 (fun H locs hP hD hS => ?_)
    refine lv_i2l hx hb dX8_holding_14 rfl ?_
    refine lv_ladd hx hb dX8_holding_15 ?_
    refine lv_aload_n hx hb dX8_holding_16 rfl (lv_at hl 0 rfl) ?_
    refine lv_iload_n hx hb dX8_holding_17 rfl (lv_at hl 1 rfl) ?_
    obtain ⟨r18, hg18, hf⟩ := o_b1_go hf
    refine g_callVi (wn := (ww_X8_holding cI cM a_this a_this_all a_this_past a_this_refused a_this_box a_this_row a_this_text a_this_numbers a_this_before v_states v_empty v_cut v_rowMany v_taken v_found v_textLong v_at v_stopped v_all v_refused)) (rest := [.long (1 + r11.toInt64)]) ⟨hx, hb, hml, hown, hts⟩ (c_X8_lowAt l D cI cM a_this a_this_all a_this_past a_this_refused a_this_box a_this_row a_this_text a_this_numbers a_this_before H.size v_states v_empty v_cut v_rowMany v_taken v_found v_textLong v_at v_stopped v_all hg18) (cwV 1 hts gX8_holding_X8_lowAt rfl rfl rfl (by decide +kernel) ⟨Nat.le_of_ble_eq_true rfl, Nat.le_of_ble_eq_true rfl⟩) hK hP hD hS hA [0, 1] [2] [1, 2, 0] rfl rfl rfl rfl rfl rfl (by decide) rfl rfl rfl hl.1 rfl (Nat.le_of_ble_eq_true rfl) dX8_holding_18 (fun H locs hP hD hS => ?_)
    refine lv_i2l hx hb dX8_holding_21 rfl ?_
    refine lv_lsub hx hb dX8_holding_22 ?_
    refine lv_goto (tgt := 33) hx hb dX8_holding_23 (by decide) ?_
    obtain ⟨q0, y0⟩ := o_rp hf
    have q1 := Option.some.inj y0
    subst q0 q1
    exact g_lret hx hb hr hlocks hP hD hK hS dX8_holding_33
set_option maxHeartbeats 4000000 in
set_option maxRecDepth 100000 in
theorem c_X8_holding (l : Launch) (D : va_G) (cI cM : ClassId) (a_this a_this_all a_this_past a_this_refused a_this_box a_this_row a_this_text a_this_numbers a_this_before : Nat) (sz : Nat) (v_states : Int32) (v_empty : Int32) (v_cut : Int32) (v_rowMany : Int32) (v_taken : Int32) (v_found : Int32) (v_textLong : Int32) (v_at : Int32) (v_stopped : Int32) (v_all : Nat → Int32) (v_refused : Nat → Int32) {x1 : Int32} {r : Int64} {o_refused : Nat → Int32} (hf : f_X8_holding v_all v_refused x1 = some (r, o_refused)) : Met l yX8_holding wsX8_holding rm_X8_holding (g_Pc D (g_tys cI cM) (ww_X8_holding cI cM a_this a_this_all a_this_past a_this_refused a_this_box a_this_row a_this_text a_this_numbers a_this_before v_states v_empty v_cut v_rowMany v_taken v_found v_textLong v_at v_stopped v_all v_refused) sz [.ref a_this, .int x1]) (g_QL D (g_tys cI cM) (va_A (ww_X8_holding cI cM a_this a_this_all a_this_past a_this_refused a_this_box a_this_row a_this_text a_this_numbers a_this_before v_states v_empty v_cut v_rowMany v_taken v_found v_textLong v_at v_stopped v_all v_refused) sz) (ww_X8_holding cI cM a_this a_this_all a_this_past a_this_refused a_this_box a_this_row a_this_text a_this_numbers a_this_before v_states v_empty v_cut v_rowMany v_taken v_found v_textLong v_at v_stopped v_all o_refused) r) 0 0 (va_A (ww_X8_holding cI cM a_this a_this_all a_this_past a_this_refused a_this_box a_this_row a_this_text a_this_numbers a_this_before v_states v_empty v_cut v_rowMany v_taken v_found v_textLong v_at v_stopped v_all v_refused) sz) := by
  refine g_met (cc := cX8_holding) (maxL := 2) (ret := (some .long)) (Qc := fun D A => g_QL D (g_tys cI cM) A (ww_X8_holding cI cM a_this a_this_all a_this_past a_this_refused a_this_box a_this_row a_this_text a_this_numbers a_this_before v_states v_empty v_cut v_rowMany v_taken v_found v_textLong v_at v_stopped v_all o_refused) r) (by decide) rfl ?_
  intro p e s m below meth c A C0 hA hK hP hD
  have hl := lv_entry ([.ref a_this, .int x1]) (n := 2) (Nat.le_of_ble_eq_true rfl)
  rw [lg_entry_eq]
  generalize (lg_sl ([.ref a_this, .int x1]) ++ List.replicate (2 - (lg_sl ([.ref a_this, .int x1])).length) Slot.unset).toArray = ls at hl ⊢
  have hl : lv_has ls 2 [(0, .ref a_this), (1, .int x1)] := hl
  exact w_X8_holding_B0 C0 hA hK v_refused x1 s.heap [] ls hf hP hD va_S.rf (lv_sub hl [0, 1] rfl)
/-! FloatBoxesModel.about(II)I -/
abbrev rm_X8_about : Room := { frames := 2, cells := 0, slots := 0, locals := 46 }
abbrev ww_X8_about (cI cM : ClassId) (a_this a_this_all a_this_past a_this_refused a_this_box a_this_row a_this_text a_this_numbers a_this_before : Nat) (v_states : Int32) (v_empty : Int32) (v_cut : Int32) (v_rowMany : Int32) (v_taken : Int32) (v_found : Int32) (v_textLong : Int32) (v_at : Int32) (v_stopped : Int32) (v_all : Nat → Int32) (v_refused : Nat → Int32) : va_W := [(a_this, .inr (6, [.ref a_this_all, .ref a_this_past, .int v_states, .ref a_this_refused, .ref a_this_box, .int v_empty, .int v_cut, .ref a_this_row, .int v_rowMany, .int v_taken, .int v_found, .ref a_this_text, .int v_textLong, .int v_at, .ref a_this_numbers, .int v_stopped, .ref a_this_before])), (a_this_all, .inl (cI, 38, .inl v_all)), (a_this_refused, .inl (cI, 3, .inl v_refused))]
def f_X8_about_B29 (v_all : Nat → Int32) (v_refused : Nat → Int32) : Option (Int32 × (Nat → Int32)) :=
  o_b2 (f_X8_refuses v_refused ((-2139095050))) (fun (r32 : Int32) (v_refused_32 : Nat → Int32) =>
  some (r32, v_refused_32))
set_option maxHeartbeats 4000000 in
set_option maxRecDepth 100000 in
theorem w_X8_about_B29 {p : Program} {l : Launch} {e : Env} {s : State} {m : MethodId} {args : Array Value} {below : List Frame} {meth : Method} {c : Code} {D : va_G} {cI cM : ClassId} {A : Nat → Prop} {a_this a_this_all a_this_past a_this_refused a_this_box a_this_row a_this_text a_this_numbers a_this_before : Nat} {v_states : Int32} {v_empty : Int32} {v_cut : Int32} {v_rowMany : Int32} {v_taken : Int32} {v_found : Int32} {v_textLong : Int32} {v_at : Int32} {v_stopped : Int32} {v_all : Nat → Int32} {r : Int32} {o_refused : Nat → Int32} (C0 : g_cx cX8_about (some .int) 3 RX8 wsX8_about p s m args meth c) (hA : ∀ q, s.heap.size ≤ q → A q) (hK : va_K D vwCl (g_tys cI cM) s) : ∀ (v_refused : Nat → Int32) (H : Heap) (locs : List Loc) (ls : Array Slot), f_X8_about_B29 v_all v_refused = some (r, o_refused) → va_P D vwCl (ww_X8_about cI cM a_this a_this_all a_this_past a_this_refused a_this_box a_this_row a_this_text a_this_numbers a_this_before v_states v_empty v_cut v_rowMany v_taken v_found v_textLong v_at v_stopped v_all v_refused) H → va_D A (ww_X8_about cI cM a_this a_this_all a_this_past a_this_refused a_this_box a_this_row a_this_text a_this_numbers a_this_before v_states v_empty v_cut v_rowMany v_taken v_found v_textLong v_at v_stopped v_all v_refused) → va_S A s.heap H locs → lv_has ls 3 [(0, .ref a_this)] → W p l e rm_X8_about s m args below meth c H locs 0 0 (MQ below (g_QI D (g_tys cI cM) A (ww_X8_about cI cM a_this a_this_all a_this_past a_this_refused a_this_box a_this_row a_this_text a_this_numbers a_this_before v_states v_empty v_cut v_rowMany v_taken v_found v_textLong v_at v_stopped v_all o_refused) r) args s 0 0 A) (F0 m 29 ls []) := by
  obtain ⟨hx, hb, hr, hml, hown, hts, hlocks⟩ := id C0
  intro v_refused H locs ls hf hP hD hS hl
  unfold f_X8_about_B29 at hf
  refine lv_aload_n hx hb dX8_about_29 rfl (lv_at hl 0 rfl) ?_
  refine lv_ldc (v := (-2139095050)) hx hb hown (hts (.constant RX8 42 (-2139095050)) (List.mem_cons_of_mem _ (List.mem_append_left _ (List.mem_of_getElem? (i := 1) rfl)))) dX8_about_30 ?_
  obtain ⟨r32, v_refused_32, hg32, hf⟩ := o_b2_go hf
  refine g_callVi (wn := (ww_X8_about cI cM a_this a_this_all a_this_past a_this_refused a_this_box a_this_row a_this_text a_this_numbers a_this_before v_states v_empty v_cut v_rowMany v_taken v_found v_textLong v_at v_stopped v_all v_refused_32)) (rest := []) ⟨hx, hb, hml, hown, hts⟩ (c_X8_refuses l D cI cM a_this a_this_all a_this_past a_this_refused a_this_box a_this_row a_this_text a_this_numbers a_this_before H.size v_states v_empty v_cut v_rowMany v_taken v_found v_textLong v_at v_stopped v_refused hg32) (cwV 1 hts gX8_about_X8_refuses rfl rfl rfl (by decide +kernel) ⟨Nat.le_of_ble_eq_true rfl, Nat.le_of_ble_eq_true rfl⟩) hK hP hD hS hA [0, 2] [1] [1, 0, 2] rfl rfl rfl rfl rfl rfl (by decide) rfl rfl rfl hl.1 rfl (Nat.le_of_ble_eq_true rfl) dX8_about_32 (fun H locs hP hD hS => ?_)
  obtain ⟨q0, y0⟩ := o_rp hf
  have q1 := Option.some.inj y0
  subst q0 q1
  exact g_iret hx hb hr hlocks hP hD hK hS dX8_about_35
def f_X8_about (v_all : Nat → Int32) (v_refused : Nat → Int32) (x1 : Int32) (x2 : Int32) : Option (Int32 × (Nat → Int32)) :=
  o_b1 (f_X8_isRule v_all x1) (fun (r2 : Int32) =>
  if r2 = 0 then
    f_X8_about_B29 v_all v_refused
  else
    o_b1 (f_X8_in x2.toInt64 0 3) (fun (r14 : Int32) =>
    if r14 = 0 then
      f_X8_about_B29 v_all v_refused
    else
      o_b1 (f_X8_ruleAt v_all x1 x2) (fun (r23 : Int32) =>
      some (r23, v_refused))))
set_option maxHeartbeats 4000000 in
set_option maxRecDepth 100000 in
theorem w_X8_about_B0 {p : Program} {l : Launch} {e : Env} {s : State} {m : MethodId} {args : Array Value} {below : List Frame} {meth : Method} {c : Code} {D : va_G} {cI cM : ClassId} {A : Nat → Prop} {a_this a_this_all a_this_past a_this_refused a_this_box a_this_row a_this_text a_this_numbers a_this_before : Nat} {v_states : Int32} {v_empty : Int32} {v_cut : Int32} {v_rowMany : Int32} {v_taken : Int32} {v_found : Int32} {v_textLong : Int32} {v_at : Int32} {v_stopped : Int32} {v_all : Nat → Int32} {r : Int32} {o_refused : Nat → Int32} (C0 : g_cx cX8_about (some .int) 3 RX8 wsX8_about p s m args meth c) (hA : ∀ q, s.heap.size ≤ q → A q) (hK : va_K D vwCl (g_tys cI cM) s) : ∀ (v_refused : Nat → Int32) (x1 : Int32) (x2 : Int32) (H : Heap) (locs : List Loc) (ls : Array Slot), f_X8_about v_all v_refused x1 x2 = some (r, o_refused) → va_P D vwCl (ww_X8_about cI cM a_this a_this_all a_this_past a_this_refused a_this_box a_this_row a_this_text a_this_numbers a_this_before v_states v_empty v_cut v_rowMany v_taken v_found v_textLong v_at v_stopped v_all v_refused) H → va_D A (ww_X8_about cI cM a_this a_this_all a_this_past a_this_refused a_this_box a_this_row a_this_text a_this_numbers a_this_before v_states v_empty v_cut v_rowMany v_taken v_found v_textLong v_at v_stopped v_all v_refused) → va_S A s.heap H locs → lv_has ls 3 [(0, .ref a_this), (1, .int x1), (2, .int x2)] → W p l e rm_X8_about s m args below meth c H locs 0 0 (MQ below (g_QI D (g_tys cI cM) A (ww_X8_about cI cM a_this a_this_all a_this_past a_this_refused a_this_box a_this_row a_this_text a_this_numbers a_this_before v_states v_empty v_cut v_rowMany v_taken v_found v_textLong v_at v_stopped v_all o_refused) r) args s 0 0 A) (F0 m 0 ls []) := by
  obtain ⟨hx, hb, hr, hml, hown, hts, hlocks⟩ := id C0
  intro v_refused x1 x2 H locs ls hf hP hD hS hl
  unfold f_X8_about at hf
  refine lv_aload_n hx hb dX8_about_0 rfl (lv_at hl 0 rfl) ?_
  refine lv_iload_n hx hb dX8_about_1 rfl (lv_at hl 1 rfl) ?_
  obtain ⟨r2, hg2, hf⟩ := o_b1_go hf
  refine g_callVi (wn := (ww_X8_about cI cM a_this a_this_all a_this_past a_this_refused a_this_box a_this_row a_this_text a_this_numbers a_this_before v_states v_empty v_cut v_rowMany v_taken v_found v_textLong v_at v_stopped v_all v_refused)) (rest := []) ⟨hx, hb, hml, hown, hts⟩ (c_X8_isRule l D cI cM a_this a_this_all a_this_past a_this_refused a_this_box a_this_row a_this_text a_this_numbers a_this_before H.size v_states v_empty v_cut v_rowMany v_taken v_found v_textLong v_at v_stopped v_all hg2) (cwV 1 hts gX8_about_X8_isRule rfl rfl rfl (by decide +kernel) ⟨Nat.le_of_ble_eq_true rfl, Nat.le_of_ble_eq_true rfl⟩) hK hP hD hS hA [0, 1] [2] [1, 2, 0] rfl rfl rfl rfl rfl rfl (by decide) rfl rfl rfl hl.1 rfl (Nat.le_of_ble_eq_true rfl) dX8_about_2 (fun H locs hP hD hS => ?_)
  refine lv_if_eq (tgt := 29) hx hb dX8_about_5 (by decide) (fun c5 => ?_) (fun c5 => ?_)
  · replace hf := o_t c5 hf
    exact w_X8_about_B29 C0 hA hK v_refused H locs ls hf hP hD hS (lv_sub hl [0] rfl)
  · replace hf := o_f c5 hf
    refine lv_iload_n hx hb dX8_about_8 rfl (lv_at hl 2 rfl) ?_
    refine lv_i2l hx hb dX8_about_9 rfl ?_
    refine lv_lconst (v := 0) hx hb dX8_about_10 (by decide) ?_
    refine lv_ldc2 (v := 3) hx hb hown (hts (.constantLong RX8 225 (3)) (List.mem_cons_of_mem _ (List.mem_append_left _ (List.mem_of_getElem? (i := 0) rfl)))) dX8_about_11 ?_
    obtain ⟨r14, hg14, hf⟩ := o_b1_go hf
    refine g_callSi (rest := []) ⟨hx, hb, hml, hown, hts⟩ (c_X8_in l hg14) (va_cwS 3 hts gX8_about_X8_in rfl rfl rfl (by decide +kernel) ⟨Nat.le_of_ble_eq_true rfl, Nat.le_of_ble_eq_true rfl⟩) rfl hl.1 rfl (Nat.le_of_ble_eq_true rfl) dX8_about_14 ?_
    refine lv_if_eq (tgt := 29) hx hb dX8_about_17 (by decide) (fun c17 => ?_) (fun c17 => ?_)
    · replace hf := o_t c17 hf
      exact w_X8_about_B29 C0 hA hK v_refused H locs ls hf hP hD hS (lv_sub hl [0] rfl)
    · replace hf := o_f c17 hf
      refine lv_aload_n hx hb dX8_about_20 rfl (lv_at hl 0 rfl) ?_
      refine lv_iload_n hx hb dX8_about_21 rfl (lv_at hl 1 rfl) ?_
      refine lv_iload_n hx hb dX8_about_22 rfl (lv_at hl 2 rfl) ?_
      obtain ⟨r23, hg23, hf⟩ := o_b1_go hf
      refine g_callVi (wn := (ww_X8_about cI cM a_this a_this_all a_this_past a_this_refused a_this_box a_this_row a_this_text a_this_numbers a_this_before v_states v_empty v_cut v_rowMany v_taken v_found v_textLong v_at v_stopped v_all v_refused)) (rest := []) ⟨hx, hb, hml, hown, hts⟩ (c_X8_ruleAt l D cI cM a_this a_this_all a_this_past a_this_refused a_this_box a_this_row a_this_text a_this_numbers a_this_before H.size v_states v_empty v_cut v_rowMany v_taken v_found v_textLong v_at v_stopped v_all hg23) (cwV 2 hts gX8_about_X8_ruleAt rfl rfl rfl (by decide +kernel) ⟨Nat.le_of_ble_eq_true rfl, Nat.le_of_ble_eq_true rfl⟩) hK hP hD hS hA [0, 1] [2] [1, 2, 0] rfl rfl rfl rfl rfl rfl (by decide) rfl rfl rfl hl.1 rfl (Nat.le_of_ble_eq_true rfl) dX8_about_23 (fun H locs hP hD hS => ?_)
      refine lv_goto (tgt := 35) hx hb dX8_about_26 (by decide) ?_
      obtain ⟨q0, y0⟩ := o_rp hf
      have q1 := Option.some.inj y0
      subst q0 q1
      exact g_iret hx hb hr hlocks hP hD hK hS dX8_about_35
set_option maxHeartbeats 4000000 in
set_option maxRecDepth 100000 in
theorem c_X8_about (l : Launch) (D : va_G) (cI cM : ClassId) (a_this a_this_all a_this_past a_this_refused a_this_box a_this_row a_this_text a_this_numbers a_this_before : Nat) (sz : Nat) (v_states : Int32) (v_empty : Int32) (v_cut : Int32) (v_rowMany : Int32) (v_taken : Int32) (v_found : Int32) (v_textLong : Int32) (v_at : Int32) (v_stopped : Int32) (v_all : Nat → Int32) (v_refused : Nat → Int32) {x1 : Int32} {x2 : Int32} {r : Int32} {o_refused : Nat → Int32} (hf : f_X8_about v_all v_refused x1 x2 = some (r, o_refused)) : Met l yX8_about wsX8_about rm_X8_about (g_Pc D (g_tys cI cM) (ww_X8_about cI cM a_this a_this_all a_this_past a_this_refused a_this_box a_this_row a_this_text a_this_numbers a_this_before v_states v_empty v_cut v_rowMany v_taken v_found v_textLong v_at v_stopped v_all v_refused) sz [.ref a_this, .int x1, .int x2]) (g_QI D (g_tys cI cM) (va_A (ww_X8_about cI cM a_this a_this_all a_this_past a_this_refused a_this_box a_this_row a_this_text a_this_numbers a_this_before v_states v_empty v_cut v_rowMany v_taken v_found v_textLong v_at v_stopped v_all v_refused) sz) (ww_X8_about cI cM a_this a_this_all a_this_past a_this_refused a_this_box a_this_row a_this_text a_this_numbers a_this_before v_states v_empty v_cut v_rowMany v_taken v_found v_textLong v_at v_stopped v_all o_refused) r) 0 0 (va_A (ww_X8_about cI cM a_this a_this_all a_this_past a_this_refused a_this_box a_this_row a_this_text a_this_numbers a_this_before v_states v_empty v_cut v_rowMany v_taken v_found v_textLong v_at v_stopped v_all v_refused) sz) := by
  refine g_met (cc := cX8_about) (maxL := 3) (ret := (some .int)) (Qc := fun D A => g_QI D (g_tys cI cM) A (ww_X8_about cI cM a_this a_this_all a_this_past a_this_refused a_this_box a_this_row a_this_text a_this_numbers a_this_before v_states v_empty v_cut v_rowMany v_taken v_found v_textLong v_at v_stopped v_all o_refused) r) (by decide) rfl ?_
  intro p e s m below meth c A C0 hA hK hP hD
  have hl := lv_entry ([.ref a_this, .int x1, .int x2]) (n := 3) (Nat.le_of_ble_eq_true rfl)
  rw [lg_entry_eq]
  generalize (lg_sl ([.ref a_this, .int x1, .int x2]) ++ List.replicate (3 - (lg_sl ([.ref a_this, .int x1, .int x2])).length) Slot.unset).toArray = ls at hl ⊢
  have hl : lv_has ls 3 [(0, .ref a_this), (1, .int x1), (2, .int x2)] := hl
  exact w_X8_about_B0 C0 hA hK v_refused x1 x2 s.heap [] ls hf hP hD va_S.rf (lv_sub hl [0, 1, 2] rfl)
/-! FloatBoxesModel.wouldBe(III)I -/
abbrev rm_X8_wouldBe : Room := { frames := 10, cells := 0, slots := 0, locals := 248 }
abbrev ww_X8_wouldBe (cI cM : ClassId) (a_this a_this_all a_this_past a_this_refused a_this_box a_this_row a_this_text a_this_numbers a_this_before : Nat) (v_states : Int32) (v_empty : Int32) (v_cut : Int32) (v_rowMany : Int32) (v_taken : Int32) (v_found : Int32) (v_textLong : Int32) (v_at : Int32) (v_stopped : Int32) (v_all : Nat → Int32) (v_box : Nat → Int32) : va_W := [(a_this, .inr (6, [.ref a_this_all, .ref a_this_past, .int v_states, .ref a_this_refused, .ref a_this_box, .int v_empty, .int v_cut, .ref a_this_row, .int v_rowMany, .int v_taken, .int v_found, .ref a_this_text, .int v_textLong, .int v_at, .ref a_this_numbers, .int v_stopped, .ref a_this_before])), (a_this_all, .inl (cI, 38, .inl v_all)), (a_this_box, .inl (cI, 12, .inl v_box))]
def f_X8_wouldBe (N : Nat) (v_all : Nat → Int32) (v_empty : Int32) (v_cut : Int32) (v_box : Nat → Int32) (x1 : Int32) (x2 : Int32) (x3 : Int32) : Option (Int32 × Int32 × Int32 × (Nat → Int32)) :=
  o_b2 (f_X8_laysBox N v_all v_empty v_box) (fun (v_empty_1 : Int32) (v_box_1 : Nat → Int32) =>
  o_b3 (f_X8_cutsBy N v_all v_empty_1 v_cut v_box_1 x1) (fun (v_empty_6 : Int32) (v_cut_6 : Int32) (v_box_6 : Nat → Int32) =>
  if v_empty_6 = 0 then
    if x3 = 0 then
      o_b1 (f_X8_low v_box_6 x2) (fun (r27 : Int32) =>
      some (r27, v_empty_6, v_cut_6, v_box_6))
    else
      o_b1 (f_X8_high v_box_6 x2) (fun (r35 : Int32) =>
      some (r35, v_empty_6, v_cut_6, v_box_6))
  else
    some ((-2139095049), v_empty_6, v_cut_6, v_box_6)))
set_option maxHeartbeats 4000000 in
set_option maxRecDepth 100000 in
theorem w_X8_wouldBe_B0 {p : Program} {l : Launch} {e : Env} {s : State} {m : MethodId} {args : Array Value} {below : List Frame} {meth : Method} {c : Code} {D : va_G} {cI cM : ClassId} {A : Nat → Prop} {a_this a_this_all a_this_past a_this_refused a_this_box a_this_row a_this_text a_this_numbers a_this_before : Nat} {v_states : Int32} {v_rowMany : Int32} {v_taken : Int32} {v_found : Int32} {v_textLong : Int32} {v_at : Int32} {v_stopped : Int32} {N : Nat} {v_all : Nat → Int32} {r : Int32} {o_empty : Int32} {o_cut : Int32} {o_box : Nat → Int32} (C0 : g_cx cX8_wouldBe (some .int) 4 RX8 wsX8_wouldBe p s m args meth c) (hA : ∀ q, s.heap.size ≤ q → A q) (hK : va_K D vwCl (g_tys cI cM) s) : ∀ (v_empty : Int32) (v_cut : Int32) (v_box : Nat → Int32) (x1 : Int32) (x2 : Int32) (x3 : Int32) (H : Heap) (locs : List Loc) (ls : Array Slot), f_X8_wouldBe N v_all v_empty v_cut v_box x1 x2 x3 = some (r, o_empty, o_cut, o_box) → va_P D vwCl (ww_X8_wouldBe cI cM a_this a_this_all a_this_past a_this_refused a_this_box a_this_row a_this_text a_this_numbers a_this_before v_states v_empty v_cut v_rowMany v_taken v_found v_textLong v_at v_stopped v_all v_box) H → va_D A (ww_X8_wouldBe cI cM a_this a_this_all a_this_past a_this_refused a_this_box a_this_row a_this_text a_this_numbers a_this_before v_states v_empty v_cut v_rowMany v_taken v_found v_textLong v_at v_stopped v_all v_box) → va_S A s.heap H locs → lv_has ls 4 [(0, .ref a_this), (1, .int x1), (2, .int x2), (3, .int x3)] → W p l e rm_X8_wouldBe s m args below meth c H locs 0 0 (MQ below (g_QI D (g_tys cI cM) A (ww_X8_wouldBe cI cM a_this a_this_all a_this_past a_this_refused a_this_box a_this_row a_this_text a_this_numbers a_this_before v_states o_empty o_cut v_rowMany v_taken v_found v_textLong v_at v_stopped v_all o_box) r) args s 0 0 A) (F0 m 0 ls []) := by
  obtain ⟨hx, hb, hr, hml, hown, hts, hlocks⟩ := id C0
  intro v_empty v_cut v_box x1 x2 x3 H locs ls hf hP hD hS hl
  unfold f_X8_wouldBe at hf
  refine lv_aload_n hx hb dX8_wouldBe_0 rfl (lv_at hl 0 rfl) ?_
  obtain ⟨v_empty_1, v_box_1, hg1, hf⟩ := o_b2_go hf
  refine g_callVv (wn := (ww_X8_wouldBe cI cM a_this a_this_all a_this_past a_this_refused a_this_box a_this_row a_this_text a_this_numbers a_this_before v_states v_empty_1 v_cut v_rowMany v_taken v_found v_textLong v_at v_stopped v_all v_box_1)) (rest := []) ⟨hx, hb, hml, hown, hts⟩ (c_X8_laysBox l D cI cM a_this a_this_all a_this_past a_this_refused a_this_box a_this_row a_this_text a_this_numbers a_this_before H.size v_states v_empty v_cut v_rowMany v_taken v_found v_textLong v_at v_stopped v_all v_box hg1) (cwV 0 hts gX8_wouldBe_X8_laysBox rfl rfl rfl (by decide +kernel) ⟨Nat.le_of_ble_eq_true rfl, Nat.le_of_ble_eq_true rfl⟩) hK hP hD hS hA [0, 1, 2] [] [0, 1, 2] rfl rfl rfl rfl rfl rfl (by decide) rfl rfl rfl hl.1 rfl (Nat.le_of_ble_eq_true rfl) dX8_wouldBe_1 (fun H locs hP hD hS => ?_)
  refine lv_aload_n hx hb dX8_wouldBe_4 rfl (lv_at hl 0 rfl) ?_
  refine lv_iload_n hx hb dX8_wouldBe_5 rfl (lv_at hl 1 rfl) ?_
  obtain ⟨v_empty_6, v_cut_6, v_box_6, hg6, hf⟩ := o_b3_go hf
  refine g_callVv (wn := (ww_X8_wouldBe cI cM a_this a_this_all a_this_past a_this_refused a_this_box a_this_row a_this_text a_this_numbers a_this_before v_states v_empty_6 v_cut_6 v_rowMany v_taken v_found v_textLong v_at v_stopped v_all v_box_6)) (rest := []) ⟨hx, hb, hml, hown, hts⟩ (c_X8_cutsBy l D cI cM a_this a_this_all a_this_past a_this_refused a_this_box a_this_row a_this_text a_this_numbers a_this_before H.size v_states v_empty_1 v_cut v_rowMany v_taken v_found v_textLong v_at v_stopped v_all v_box_1 hg6) (cwV 1 hts gX8_wouldBe_X8_cutsBy rfl rfl rfl (by decide +kernel) ⟨Nat.le_of_ble_eq_true rfl, Nat.le_of_ble_eq_true rfl⟩) hK hP hD hS hA [0, 1, 2] [] [0, 1, 2] rfl rfl rfl rfl rfl rfl (by decide) rfl rfl rfl hl.1 rfl (Nat.le_of_ble_eq_true rfl) dX8_wouldBe_6 (fun H locs hP hD hS => ?_)
  refine lv_aload_n hx hb dX8_wouldBe_9 rfl (lv_at hl 0 rfl) ?_
  refine va_get (D := D) (ci := 6) (v := .int v_empty_6) (C := RX8) (T := TX8) (N := 17) hx hb hts (fun _ h => (List.mem_cons_of_mem _ (List.mem_append_right _ h))) hown hK hP 0 rfl rfl 5 (by decide) (hts (.fieldLink RX8 124 "FloatBoxesModel" "empty" "Z") (List.mem_cons_of_mem _ (List.mem_append_left _ (List.mem_append_left _ (List.mem_of_getElem? (i := 0) rfl))))) (fun _ h9 => h9) rfl dX8_wouldBe_10 ?_
  refine lv_if_eq (tgt := 21) hx hb dX8_wouldBe_13 (by decide) (fun c13 => ?_) (fun c13 => ?_)
  · replace hf := o_t c13 hf
    refine lv_iload_n hx hb dX8_wouldBe_21 rfl (lv_at hl 3 rfl) ?_
    refine lv_if_ne (tgt := 33) hx hb dX8_wouldBe_22 (by decide) (fun c22 => ?_) (fun c22 => ?_)
    · replace hf := o_f c22 hf
      refine lv_aload_n hx hb dX8_wouldBe_33 rfl (lv_at hl 0 rfl) ?_
      refine lv_iload_n hx hb dX8_wouldBe_34 rfl (lv_at hl 2 rfl) ?_
      obtain ⟨r35, hg35, hf⟩ := o_b1_go hf
      refine g_callVi (wn := (ww_X8_wouldBe cI cM a_this a_this_all a_this_past a_this_refused a_this_box a_this_row a_this_text a_this_numbers a_this_before v_states v_empty_6 v_cut_6 v_rowMany v_taken v_found v_textLong v_at v_stopped v_all v_box_6)) (rest := []) ⟨hx, hb, hml, hown, hts⟩ (c_X8_high l D cI cM a_this a_this_all a_this_past a_this_refused a_this_box a_this_row a_this_text a_this_numbers a_this_before H.size v_states v_empty_6 v_cut_6 v_rowMany v_taken v_found v_textLong v_at v_stopped v_box_6 hg35) (cwV 1 hts gX8_wouldBe_X8_high rfl rfl rfl (by decide +kernel) ⟨Nat.le_of_ble_eq_true rfl, Nat.le_of_ble_eq_true rfl⟩) hK hP hD hS hA [0, 2] [1] [1, 0, 2] rfl rfl rfl rfl rfl rfl (by decide) rfl rfl rfl hl.1 rfl (Nat.le_of_ble_eq_true rfl) dX8_wouldBe_35 (fun H locs hP hD hS => ?_)
      obtain ⟨q0, y0⟩ := o_rp hf
      obtain ⟨q1, y1⟩ := o_rp y0
      obtain ⟨q2, y2⟩ := o_rp y1
      have q3 := Option.some.inj y2
      subst q0 q1 q2 q3
      exact g_iret hx hb hr hlocks hP hD hK hS dX8_wouldBe_38
    · replace hf := o_t c22 hf
      refine lv_aload_n hx hb dX8_wouldBe_25 rfl (lv_at hl 0 rfl) ?_
      refine lv_iload_n hx hb dX8_wouldBe_26 rfl (lv_at hl 2 rfl) ?_
      obtain ⟨r27, hg27, hf⟩ := o_b1_go hf
      refine g_callVi (wn := (ww_X8_wouldBe cI cM a_this a_this_all a_this_past a_this_refused a_this_box a_this_row a_this_text a_this_numbers a_this_before v_states v_empty_6 v_cut_6 v_rowMany v_taken v_found v_textLong v_at v_stopped v_all v_box_6)) (rest := []) ⟨hx, hb, hml, hown, hts⟩ (c_X8_low l D cI cM a_this a_this_all a_this_past a_this_refused a_this_box a_this_row a_this_text a_this_numbers a_this_before H.size v_states v_empty_6 v_cut_6 v_rowMany v_taken v_found v_textLong v_at v_stopped v_box_6 hg27) (cwV 1 hts gX8_wouldBe_X8_low rfl rfl rfl (by decide +kernel) ⟨Nat.le_of_ble_eq_true rfl, Nat.le_of_ble_eq_true rfl⟩) hK hP hD hS hA [0, 2] [1] [1, 0, 2] rfl rfl rfl rfl rfl rfl (by decide) rfl rfl rfl hl.1 rfl (Nat.le_of_ble_eq_true rfl) dX8_wouldBe_27 (fun H locs hP hD hS => ?_)
      refine lv_goto (tgt := 38) hx hb dX8_wouldBe_30 (by decide) ?_
      obtain ⟨q0, y0⟩ := o_rp hf
      obtain ⟨q1, y1⟩ := o_rp y0
      obtain ⟨q2, y2⟩ := o_rp y1
      have q3 := Option.some.inj y2
      subst q0 q1 q2 q3
      exact g_iret hx hb hr hlocks hP hD hK hS dX8_wouldBe_38
  · replace hf := o_f c13 hf
    refine lv_ldc (v := (-2139095049)) hx hb hown (hts (.constant RX8 221 (-2139095049)) (List.mem_cons_of_mem _ (List.mem_append_left _ (List.mem_append_left _ (List.mem_of_getElem? (i := 1) rfl))))) dX8_wouldBe_16 ?_
    refine lv_goto (tgt := 38) hx hb dX8_wouldBe_18 (by decide) ?_
    obtain ⟨q0, y0⟩ := o_rp hf
    obtain ⟨q1, y1⟩ := o_rp y0
    obtain ⟨q2, y2⟩ := o_rp y1
    have q3 := Option.some.inj y2
    subst q0 q1 q2 q3
    exact g_iret hx hb hr hlocks hP hD hK hS dX8_wouldBe_38
set_option maxHeartbeats 4000000 in
set_option maxRecDepth 100000 in
theorem c_X8_wouldBe (l : Launch) (D : va_G) (cI cM : ClassId) (a_this a_this_all a_this_past a_this_refused a_this_box a_this_row a_this_text a_this_numbers a_this_before : Nat) (sz : Nat) (v_states : Int32) (v_empty : Int32) (v_cut : Int32) (v_rowMany : Int32) (v_taken : Int32) (v_found : Int32) (v_textLong : Int32) (v_at : Int32) (v_stopped : Int32) (v_all : Nat → Int32) (v_box : Nat → Int32) {N : Nat} {x1 : Int32} {x2 : Int32} {x3 : Int32} {r : Int32} {o_empty : Int32} {o_cut : Int32} {o_box : Nat → Int32} (hf : f_X8_wouldBe N v_all v_empty v_cut v_box x1 x2 x3 = some (r, o_empty, o_cut, o_box)) : Met l yX8_wouldBe wsX8_wouldBe rm_X8_wouldBe (g_Pc D (g_tys cI cM) (ww_X8_wouldBe cI cM a_this a_this_all a_this_past a_this_refused a_this_box a_this_row a_this_text a_this_numbers a_this_before v_states v_empty v_cut v_rowMany v_taken v_found v_textLong v_at v_stopped v_all v_box) sz [.ref a_this, .int x1, .int x2, .int x3]) (g_QI D (g_tys cI cM) (va_A (ww_X8_wouldBe cI cM a_this a_this_all a_this_past a_this_refused a_this_box a_this_row a_this_text a_this_numbers a_this_before v_states v_empty v_cut v_rowMany v_taken v_found v_textLong v_at v_stopped v_all v_box) sz) (ww_X8_wouldBe cI cM a_this a_this_all a_this_past a_this_refused a_this_box a_this_row a_this_text a_this_numbers a_this_before v_states o_empty o_cut v_rowMany v_taken v_found v_textLong v_at v_stopped v_all o_box) r) 0 0 (va_A (ww_X8_wouldBe cI cM a_this a_this_all a_this_past a_this_refused a_this_box a_this_row a_this_text a_this_numbers a_this_before v_states v_empty v_cut v_rowMany v_taken v_found v_textLong v_at v_stopped v_all v_box) sz) := by
  refine g_met (cc := cX8_wouldBe) (maxL := 4) (ret := (some .int)) (Qc := fun D A => g_QI D (g_tys cI cM) A (ww_X8_wouldBe cI cM a_this a_this_all a_this_past a_this_refused a_this_box a_this_row a_this_text a_this_numbers a_this_before v_states o_empty o_cut v_rowMany v_taken v_found v_textLong v_at v_stopped v_all o_box) r) (by decide) rfl ?_
  intro p e s m below meth c A C0 hA hK hP hD
  have hl := lv_entry ([.ref a_this, .int x1, .int x2, .int x3]) (n := 4) (Nat.le_of_ble_eq_true rfl)
  rw [lg_entry_eq]
  generalize (lg_sl ([.ref a_this, .int x1, .int x2, .int x3]) ++ List.replicate (4 - (lg_sl ([.ref a_this, .int x1, .int x2, .int x3])).length) Slot.unset).toArray = ls at hl ⊢
  have hl : lv_has ls 4 [(0, .ref a_this), (1, .int x1), (2, .int x2), (3, .int x3)] := hl
  exact w_X8_wouldBe_B0 C0 hA hK v_empty v_cut v_box x1 x2 x3 s.heap [] ls hf hP hD va_S.rf (lv_sub hl [0, 1, 2, 3] rfl)
/-! FloatBoxesModel.would(III)I -/
abbrev rm_X8_would : Room := { frames := 11, cells := 0, slots := 0, locals := 271 }
abbrev ww_X8_would (cI cM : ClassId) (a_this a_this_all a_this_past a_this_refused a_this_box a_this_row a_this_text a_this_numbers a_this_before : Nat) (v_states : Int32) (v_empty : Int32) (v_cut : Int32) (v_rowMany : Int32) (v_taken : Int32) (v_found : Int32) (v_textLong : Int32) (v_at : Int32) (v_stopped : Int32) (v_all : Nat → Int32) (v_refused : Nat → Int32) (v_box : Nat → Int32) : va_W := [(a_this, .inr (6, [.ref a_this_all, .ref a_this_past, .int v_states, .ref a_this_refused, .ref a_this_box, .int v_empty, .int v_cut, .ref a_this_row, .int v_rowMany, .int v_taken, .int v_found, .ref a_this_text, .int v_textLong, .int v_at, .ref a_this_numbers, .int v_stopped, .ref a_this_before])), (a_this_all, .inl (cI, 38, .inl v_all)), (a_this_refused, .inl (cI, 3, .inl v_refused)), (a_this_box, .inl (cI, 12, .inl v_box))]
def f_X8_would_B36 (N : Nat) (v_all : Nat → Int32) (v_empty : Int32) (v_cut : Int32) (v_refused : Nat → Int32) (v_box : Nat → Int32) : Option (Int32 × Int32 × Int32 × (Nat → Int32) × (Nat → Int32)) :=
  o_b2 (f_X8_refuses v_refused ((-2139095050))) (fun (r39 : Int32) (v_refused_39 : Nat → Int32) =>
  some (r39, v_empty, v_cut, v_refused_39, v_box))
set_option maxHeartbeats 4000000 in
set_option maxRecDepth 100000 in
theorem w_X8_would_B36 {p : Program} {l : Launch} {e : Env} {s : State} {m : MethodId} {args : Array Value} {below : List Frame} {meth : Method} {c : Code} {D : va_G} {cI cM : ClassId} {A : Nat → Prop} {a_this a_this_all a_this_past a_this_refused a_this_box a_this_row a_this_text a_this_numbers a_this_before : Nat} {v_states : Int32} {v_rowMany : Int32} {v_taken : Int32} {v_found : Int32} {v_textLong : Int32} {v_at : Int32} {v_stopped : Int32} {N : Nat} {v_all : Nat → Int32} {r : Int32} {o_empty : Int32} {o_cut : Int32} {o_refused : Nat → Int32} {o_box : Nat → Int32} (C0 : g_cx cX8_would (some .int) 4 RX8 wsX8_would p s m args meth c) (hA : ∀ q, s.heap.size ≤ q → A q) (hK : va_K D vwCl (g_tys cI cM) s) : ∀ (v_empty : Int32) (v_cut : Int32) (v_refused : Nat → Int32) (v_box : Nat → Int32) (H : Heap) (locs : List Loc) (ls : Array Slot), f_X8_would_B36 N v_all v_empty v_cut v_refused v_box = some (r, o_empty, o_cut, o_refused, o_box) → va_P D vwCl (ww_X8_would cI cM a_this a_this_all a_this_past a_this_refused a_this_box a_this_row a_this_text a_this_numbers a_this_before v_states v_empty v_cut v_rowMany v_taken v_found v_textLong v_at v_stopped v_all v_refused v_box) H → va_D A (ww_X8_would cI cM a_this a_this_all a_this_past a_this_refused a_this_box a_this_row a_this_text a_this_numbers a_this_before v_states v_empty v_cut v_rowMany v_taken v_found v_textLong v_at v_stopped v_all v_refused v_box) → va_S A s.heap H locs → lv_has ls 4 [(0, .ref a_this)] → W p l e rm_X8_would s m args below meth c H locs 0 0 (MQ below (g_QI D (g_tys cI cM) A (ww_X8_would cI cM a_this a_this_all a_this_past a_this_refused a_this_box a_this_row a_this_text a_this_numbers a_this_before v_states o_empty o_cut v_rowMany v_taken v_found v_textLong v_at v_stopped v_all o_refused o_box) r) args s 0 0 A) (F0 m 36 ls []) := by
  obtain ⟨hx, hb, hr, hml, hown, hts, hlocks⟩ := id C0
  intro v_empty v_cut v_refused v_box H locs ls hf hP hD hS hl
  unfold f_X8_would_B36 at hf
  refine lv_aload_n hx hb dX8_would_36 rfl (lv_at hl 0 rfl) ?_
  refine lv_ldc (v := (-2139095050)) hx hb hown (hts (.constant RX8 42 (-2139095050)) (List.mem_cons_of_mem _ (List.mem_append_left _ (List.mem_append_left _ (List.mem_of_getElem? (i := 0) rfl))))) dX8_would_37 ?_
  obtain ⟨r39, v_refused_39, hg39, hf⟩ := o_b2_go hf
  refine g_callVi (wn := (ww_X8_would cI cM a_this a_this_all a_this_past a_this_refused a_this_box a_this_row a_this_text a_this_numbers a_this_before v_states v_empty v_cut v_rowMany v_taken v_found v_textLong v_at v_stopped v_all v_refused_39 v_box)) (rest := []) ⟨hx, hb, hml, hown, hts⟩ (c_X8_refuses l D cI cM a_this a_this_all a_this_past a_this_refused a_this_box a_this_row a_this_text a_this_numbers a_this_before H.size v_states v_empty v_cut v_rowMany v_taken v_found v_textLong v_at v_stopped v_refused hg39) (cwV 1 hts gX8_would_X8_refuses rfl rfl rfl (by decide +kernel) ⟨Nat.le_of_ble_eq_true rfl, Nat.le_of_ble_eq_true rfl⟩) hK hP hD hS hA [0, 2] [1, 3] [2, 0, 3, 1] rfl rfl rfl rfl rfl rfl (by decide) rfl rfl rfl hl.1 rfl (Nat.le_of_ble_eq_true rfl) dX8_would_39 (fun H locs hP hD hS => ?_)
  obtain ⟨q0, y0⟩ := o_rp hf
  obtain ⟨q1, y1⟩ := o_rp y0
  obtain ⟨q2, y2⟩ := o_rp y1
  obtain ⟨q3, y3⟩ := o_rp y2
  have q4 := Option.some.inj y3
  subst q0 q1 q2 q3 q4
  exact g_iret hx hb hr hlocks hP hD hK hS dX8_would_42
def f_X8_would (N : Nat) (v_all : Nat → Int32) (v_empty : Int32) (v_cut : Int32) (v_refused : Nat → Int32) (v_box : Nat → Int32) (x1 : Int32) (x2 : Int32) (x3 : Int32) : Option (Int32 × Int32 × Int32 × (Nat → Int32) × (Nat → Int32)) :=
  o_b1 (f_X8_isRule v_all x1) (fun (r2 : Int32) =>
  if r2 = 0 then
    f_X8_would_B36 N v_all v_empty v_cut v_refused v_box
  else
    o_b1 (f_X8_isUnknown v_all x2) (fun (r10 : Int32) =>
    if r10 = 0 then
      f_X8_would_B36 N v_all v_empty v_cut v_refused v_box
    else
      o_b1 (f_X8_in x3.toInt64 0 1) (fun (r20 : Int32) =>
      if r20 = 0 then
        f_X8_would_B36 N v_all v_empty v_cut v_refused v_box
      else
        o_b4 (f_X8_wouldBe N v_all v_empty v_cut v_box x1 x2 x3) (fun (r30 : Int32) (v_empty_30 : Int32) (v_cut_30 : Int32) (v_box_30 : Nat → Int32) =>
        some (r30, v_empty_30, v_cut_30, v_refused, v_box_30)))))
set_option maxHeartbeats 4000000 in
set_option maxRecDepth 100000 in
theorem w_X8_would_B0 {p : Program} {l : Launch} {e : Env} {s : State} {m : MethodId} {args : Array Value} {below : List Frame} {meth : Method} {c : Code} {D : va_G} {cI cM : ClassId} {A : Nat → Prop} {a_this a_this_all a_this_past a_this_refused a_this_box a_this_row a_this_text a_this_numbers a_this_before : Nat} {v_states : Int32} {v_rowMany : Int32} {v_taken : Int32} {v_found : Int32} {v_textLong : Int32} {v_at : Int32} {v_stopped : Int32} {N : Nat} {v_all : Nat → Int32} {r : Int32} {o_empty : Int32} {o_cut : Int32} {o_refused : Nat → Int32} {o_box : Nat → Int32} (C0 : g_cx cX8_would (some .int) 4 RX8 wsX8_would p s m args meth c) (hA : ∀ q, s.heap.size ≤ q → A q) (hK : va_K D vwCl (g_tys cI cM) s) : ∀ (v_empty : Int32) (v_cut : Int32) (v_refused : Nat → Int32) (v_box : Nat → Int32) (x1 : Int32) (x2 : Int32) (x3 : Int32) (H : Heap) (locs : List Loc) (ls : Array Slot), f_X8_would N v_all v_empty v_cut v_refused v_box x1 x2 x3 = some (r, o_empty, o_cut, o_refused, o_box) → va_P D vwCl (ww_X8_would cI cM a_this a_this_all a_this_past a_this_refused a_this_box a_this_row a_this_text a_this_numbers a_this_before v_states v_empty v_cut v_rowMany v_taken v_found v_textLong v_at v_stopped v_all v_refused v_box) H → va_D A (ww_X8_would cI cM a_this a_this_all a_this_past a_this_refused a_this_box a_this_row a_this_text a_this_numbers a_this_before v_states v_empty v_cut v_rowMany v_taken v_found v_textLong v_at v_stopped v_all v_refused v_box) → va_S A s.heap H locs → lv_has ls 4 [(0, .ref a_this), (1, .int x1), (2, .int x2), (3, .int x3)] → W p l e rm_X8_would s m args below meth c H locs 0 0 (MQ below (g_QI D (g_tys cI cM) A (ww_X8_would cI cM a_this a_this_all a_this_past a_this_refused a_this_box a_this_row a_this_text a_this_numbers a_this_before v_states o_empty o_cut v_rowMany v_taken v_found v_textLong v_at v_stopped v_all o_refused o_box) r) args s 0 0 A) (F0 m 0 ls []) := by
  obtain ⟨hx, hb, hr, hml, hown, hts, hlocks⟩ := id C0
  intro v_empty v_cut v_refused v_box x1 x2 x3 H locs ls hf hP hD hS hl
  unfold f_X8_would at hf
  refine lv_aload_n hx hb dX8_would_0 rfl (lv_at hl 0 rfl) ?_
  refine lv_iload_n hx hb dX8_would_1 rfl (lv_at hl 1 rfl) ?_
  obtain ⟨r2, hg2, hf⟩ := o_b1_go hf
  refine g_callVi (wn := (ww_X8_would cI cM a_this a_this_all a_this_past a_this_refused a_this_box a_this_row a_this_text a_this_numbers a_this_before v_states v_empty v_cut v_rowMany v_taken v_found v_textLong v_at v_stopped v_all v_refused v_box)) (rest := []) ⟨hx, hb, hml, hown, hts⟩ (c_X8_isRule l D cI cM a_this a_this_all a_this_past a_this_refused a_this_box a_this_row a_this_text a_this_numbers a_this_before H.size v_states v_empty v_cut v_rowMany v_taken v_found v_textLong v_at v_stopped v_all hg2) (cwV 1 hts gX8_would_X8_isRule rfl rfl rfl (by decide +kernel) ⟨Nat.le_of_ble_eq_true rfl, Nat.le_of_ble_eq_true rfl⟩) hK hP hD hS hA [0, 1] [2, 3] [2, 3, 0, 1] rfl rfl rfl rfl rfl rfl (by decide) rfl rfl rfl hl.1 rfl (Nat.le_of_ble_eq_true rfl) dX8_would_2 (fun H locs hP hD hS => ?_)
  refine lv_if_eq (tgt := 36) hx hb dX8_would_5 (by decide) (fun c5 => ?_) (fun c5 => ?_)
  · replace hf := o_t c5 hf
    exact w_X8_would_B36 C0 hA hK v_empty v_cut v_refused v_box H locs ls hf hP hD hS (lv_sub hl [0] rfl)
  · replace hf := o_f c5 hf
    refine lv_aload_n hx hb dX8_would_8 rfl (lv_at hl 0 rfl) ?_
    refine lv_iload_n hx hb dX8_would_9 rfl (lv_at hl 2 rfl) ?_
    obtain ⟨r10, hg10, hf⟩ := o_b1_go hf
    refine g_callVi (wn := (ww_X8_would cI cM a_this a_this_all a_this_past a_this_refused a_this_box a_this_row a_this_text a_this_numbers a_this_before v_states v_empty v_cut v_rowMany v_taken v_found v_textLong v_at v_stopped v_all v_refused v_box)) (rest := []) ⟨hx, hb, hml, hown, hts⟩ (c_X8_isUnknown l D cI cM a_this a_this_all a_this_past a_this_refused a_this_box a_this_row a_this_text a_this_numbers a_this_before H.size v_states v_empty v_cut v_rowMany v_taken v_found v_textLong v_at v_stopped v_all hg10) (cwV 1 hts gX8_would_X8_isUnknown rfl rfl rfl (by decide +kernel) ⟨Nat.le_of_ble_eq_true rfl, Nat.le_of_ble_eq_true rfl⟩) hK hP hD hS hA [0, 1] [2, 3] [2, 3, 0, 1] rfl rfl rfl rfl rfl rfl (by decide) rfl rfl rfl hl.1 rfl (Nat.le_of_ble_eq_true rfl) dX8_would_10 (fun H locs hP hD hS => ?_)
    refine lv_if_eq (tgt := 36) hx hb dX8_would_13 (by decide) (fun c13 => ?_) (fun c13 => ?_)
    · replace hf := o_t c13 hf
      exact w_X8_would_B36 C0 hA hK v_empty v_cut v_refused v_box H locs ls hf hP hD hS (lv_sub hl [0] rfl)
    · replace hf := o_f c13 hf
      refine lv_iload_n hx hb dX8_would_16 rfl (lv_at hl 3 rfl) ?_
      refine lv_i2l hx hb dX8_would_17 rfl ?_
      refine lv_lconst (v := 0) hx hb dX8_would_18 (by decide) ?_
      refine lv_lconst (v := 1) hx hb dX8_would_19 (by decide) ?_
      obtain ⟨r20, hg20, hf⟩ := o_b1_go hf
      refine g_callSi (rest := []) ⟨hx, hb, hml, hown, hts⟩ (c_X8_in l hg20) (va_cwS 3 hts gX8_would_X8_in rfl rfl rfl (by decide +kernel) ⟨Nat.le_of_ble_eq_true rfl, Nat.le_of_ble_eq_true rfl⟩) rfl hl.1 rfl (Nat.le_of_ble_eq_true rfl) dX8_would_20 ?_
      refine lv_if_eq (tgt := 36) hx hb dX8_would_23 (by decide) (fun c23 => ?_) (fun c23 => ?_)
      · replace hf := o_t c23 hf
        exact w_X8_would_B36 C0 hA hK v_empty v_cut v_refused v_box H locs ls hf hP hD hS (lv_sub hl [0] rfl)
      · replace hf := o_f c23 hf
        refine lv_aload_n hx hb dX8_would_26 rfl (lv_at hl 0 rfl) ?_
        refine lv_iload_n hx hb dX8_would_27 rfl (lv_at hl 1 rfl) ?_
        refine lv_iload_n hx hb dX8_would_28 rfl (lv_at hl 2 rfl) ?_
        refine lv_iload_n hx hb dX8_would_29 rfl (lv_at hl 3 rfl) ?_
        obtain ⟨r30, v_empty_30, v_cut_30, v_box_30, hg30, hf⟩ := o_b4_go hf
        refine g_callVi (wn := (ww_X8_would cI cM a_this a_this_all a_this_past a_this_refused a_this_box a_this_row a_this_text a_this_numbers a_this_before v_states v_empty_30 v_cut_30 v_rowMany v_taken v_found v_textLong v_at v_stopped v_all v_refused v_box_30)) (rest := []) ⟨hx, hb, hml, hown, hts⟩ (c_X8_wouldBe l D cI cM a_this a_this_all a_this_past a_this_refused a_this_box a_this_row a_this_text a_this_numbers a_this_before H.size v_states v_empty v_cut v_rowMany v_taken v_found v_textLong v_at v_stopped v_all v_box hg30) (cwV 3 hts gX8_would_X8_wouldBe rfl rfl rfl (by decide +kernel) ⟨Nat.le_of_ble_eq_true rfl, Nat.le_of_ble_eq_true rfl⟩) hK hP hD hS hA [0, 1, 3] [2] [1, 2, 0, 3] rfl rfl rfl rfl rfl rfl (by decide) rfl rfl rfl hl.1 rfl (Nat.le_of_ble_eq_true rfl) dX8_would_30 (fun H locs hP hD hS => ?_)
        refine lv_goto (tgt := 42) hx hb dX8_would_33 (by decide) ?_
        obtain ⟨q0, y0⟩ := o_rp hf
        obtain ⟨q1, y1⟩ := o_rp y0
        obtain ⟨q2, y2⟩ := o_rp y1
        obtain ⟨q3, y3⟩ := o_rp y2
        have q4 := Option.some.inj y3
        subst q0 q1 q2 q3 q4
        exact g_iret hx hb hr hlocks hP hD hK hS dX8_would_42
set_option maxHeartbeats 4000000 in
set_option maxRecDepth 100000 in
theorem c_X8_would (l : Launch) (D : va_G) (cI cM : ClassId) (a_this a_this_all a_this_past a_this_refused a_this_box a_this_row a_this_text a_this_numbers a_this_before : Nat) (sz : Nat) (v_states : Int32) (v_empty : Int32) (v_cut : Int32) (v_rowMany : Int32) (v_taken : Int32) (v_found : Int32) (v_textLong : Int32) (v_at : Int32) (v_stopped : Int32) (v_all : Nat → Int32) (v_refused : Nat → Int32) (v_box : Nat → Int32) {N : Nat} {x1 : Int32} {x2 : Int32} {x3 : Int32} {r : Int32} {o_empty : Int32} {o_cut : Int32} {o_refused : Nat → Int32} {o_box : Nat → Int32} (hf : f_X8_would N v_all v_empty v_cut v_refused v_box x1 x2 x3 = some (r, o_empty, o_cut, o_refused, o_box)) : Met l yX8_would wsX8_would rm_X8_would (g_Pc D (g_tys cI cM) (ww_X8_would cI cM a_this a_this_all a_this_past a_this_refused a_this_box a_this_row a_this_text a_this_numbers a_this_before v_states v_empty v_cut v_rowMany v_taken v_found v_textLong v_at v_stopped v_all v_refused v_box) sz [.ref a_this, .int x1, .int x2, .int x3]) (g_QI D (g_tys cI cM) (va_A (ww_X8_would cI cM a_this a_this_all a_this_past a_this_refused a_this_box a_this_row a_this_text a_this_numbers a_this_before v_states v_empty v_cut v_rowMany v_taken v_found v_textLong v_at v_stopped v_all v_refused v_box) sz) (ww_X8_would cI cM a_this a_this_all a_this_past a_this_refused a_this_box a_this_row a_this_text a_this_numbers a_this_before v_states o_empty o_cut v_rowMany v_taken v_found v_textLong v_at v_stopped v_all o_refused o_box) r) 0 0 (va_A (ww_X8_would cI cM a_this a_this_all a_this_past a_this_refused a_this_box a_this_row a_this_text a_this_numbers a_this_before v_states v_empty v_cut v_rowMany v_taken v_found v_textLong v_at v_stopped v_all v_refused v_box) sz) := by
  refine g_met (cc := cX8_would) (maxL := 4) (ret := (some .int)) (Qc := fun D A => g_QI D (g_tys cI cM) A (ww_X8_would cI cM a_this a_this_all a_this_past a_this_refused a_this_box a_this_row a_this_text a_this_numbers a_this_before v_states o_empty o_cut v_rowMany v_taken v_found v_textLong v_at v_stopped v_all o_refused o_box) r) (by decide) rfl ?_
  intro p e s m below meth c A C0 hA hK hP hD
  have hl := lv_entry ([.ref a_this, .int x1, .int x2, .int x3]) (n := 4) (Nat.le_of_ble_eq_true rfl)
  rw [lg_entry_eq]
  generalize (lg_sl ([.ref a_this, .int x1, .int x2, .int x3]) ++ List.replicate (4 - (lg_sl ([.ref a_this, .int x1, .int x2, .int x3])).length) Slot.unset).toArray = ls at hl ⊢
  have hl : lv_has ls 4 [(0, .ref a_this), (1, .int x1), (2, .int x2), (3, .int x3)] := hl
  exact w_X8_would_B0 C0 hA hK v_empty v_cut v_refused v_box x1 x2 x3 s.heap [] ls hf hP hD va_S.rf (lv_sub hl [0, 1, 2, 3] rfl)
/-! FloatBoxesModel.does(IIII)I -/
abbrev rm_X8_does : Room := { frames := 5, cells := 0, slots := 0, locals := 108 }
abbrev ww_X8_does (cI cM : ClassId) (a_this a_this_all a_this_past a_this_refused a_this_box a_this_row a_this_text a_this_numbers a_this_before : Nat) (v_states : Int32) (v_empty : Int32) (v_cut : Int32) (v_rowMany : Int32) (v_taken : Int32) (v_found : Int32) (v_textLong : Int32) (v_at : Int32) (v_stopped : Int32) (v_refused : Nat → Int32) : va_W := [(a_this, .inr (6, [.ref a_this_all, .ref a_this_past, .int v_states, .ref a_this_refused, .ref a_this_box, .int v_empty, .int v_cut, .ref a_this_row, .int v_rowMany, .int v_taken, .int v_found, .ref a_this_text, .int v_textLong, .int v_at, .ref a_this_numbers, .int v_stopped, .ref a_this_before])), (a_this_refused, .inl (cI, 3, .inl v_refused))]
def f_X8_does_B44  (v_refused : Nat → Int32) (x1 : Int32) (x2 : Int32) (x3 : Int32) (x4 : Int32) (z0 : Int32) : Option (Int32 × (Nat → Int32)) :=
  if z0 = 0 then
    o_b2 (f_X8_refuses v_refused ((-2139095050))) (fun (r73 : Int32) (v_refused_73 : Nat → Int32) =>
    some (r73, v_refused_73))
  else
    o_b1 (f_X8_holds x1 x2 x3 x4) (fun (r56 : Int32) =>
    if r56 = 0 then
      some (0, v_refused)
    else
      some (1, v_refused))
set_option maxHeartbeats 4000000 in
set_option maxRecDepth 100000 in
theorem w_X8_does_B44 {p : Program} {l : Launch} {e : Env} {s : State} {m : MethodId} {args : Array Value} {below : List Frame} {meth : Method} {c : Code} {D : va_G} {cI cM : ClassId} {A : Nat → Prop} {a_this a_this_all a_this_past a_this_refused a_this_box a_this_row a_this_text a_this_numbers a_this_before : Nat} {v_states : Int32} {v_empty : Int32} {v_cut : Int32} {v_rowMany : Int32} {v_taken : Int32} {v_found : Int32} {v_textLong : Int32} {v_at : Int32} {v_stopped : Int32} {r : Int32} {o_refused : Nat → Int32} (C0 : g_cx cX8_does (some .int) 6 RX8 wsX8_does p s m args meth c) (hA : ∀ q, s.heap.size ≤ q → A q) (hK : va_K D vwCl (g_tys cI cM) s) : ∀ (v_refused : Nat → Int32) (x1 : Int32) (x2 : Int32) (x3 : Int32) (x4 : Int32) (z0 : Int32) (H : Heap) (locs : List Loc) (ls : Array Slot), f_X8_does_B44 v_refused x1 x2 x3 x4 z0 = some (r, o_refused) → va_P D vwCl (ww_X8_does cI cM a_this a_this_all a_this_past a_this_refused a_this_box a_this_row a_this_text a_this_numbers a_this_before v_states v_empty v_cut v_rowMany v_taken v_found v_textLong v_at v_stopped v_refused) H → va_D A (ww_X8_does cI cM a_this a_this_all a_this_past a_this_refused a_this_box a_this_row a_this_text a_this_numbers a_this_before v_states v_empty v_cut v_rowMany v_taken v_found v_textLong v_at v_stopped v_refused) → va_S A s.heap H locs → lv_has ls 6 [(0, .ref a_this), (1, .int x1), (2, .int x2), (3, .int x3), (4, .int x4)] → W p l e rm_X8_does s m args below meth c H locs 0 0 (MQ below (g_QI D (g_tys cI cM) A (ww_X8_does cI cM a_this a_this_all a_this_past a_this_refused a_this_box a_this_row a_this_text a_this_numbers a_this_before v_states v_empty v_cut v_rowMany v_taken v_found v_textLong v_at v_stopped o_refused) r) args s 0 0 A) (F0 m 44 ls [.int z0]) := by
  obtain ⟨hx, hb, hr, hml, hown, hts, hlocks⟩ := id C0
  intro v_refused x1 x2 x3 x4 z0 H locs ls hf hP hD hS hl
  unfold f_X8_does_B44 at hf
  refine lv_istore (lv' := [(5, .int z0), (0, .ref a_this), (1, .int x1), (2, .int x2), (3, .int x3), (4, .int x4)]) hx hb dX8_does_44 hl (by decide) rfl (fun ls hl => ?_)
  refine lv_iload hx hb dX8_does_46 (lv_at hl 0 rfl) ?_
  refine lv_if_eq (tgt := 70) hx hb dX8_does_48 (by decide) (fun c48 => ?_) (fun c48 => ?_)
  · replace hf := o_t c48 hf
    refine lv_aload_n hx hb dX8_does_70 rfl (lv_at hl 1 rfl) ?_
    refine lv_ldc (v := (-2139095050)) hx hb hown (hts (.constant RX8 42 (-2139095050)) (List.mem_cons_of_mem _ (List.mem_append_left _ (List.mem_append_left _ (List.mem_of_getElem? (i := 1) rfl))))) dX8_does_71 ?_
    obtain ⟨r73, v_refused_73, hg73, hf⟩ := o_b2_go hf
    refine g_callVi (wn := (ww_X8_does cI cM a_this a_this_all a_this_past a_this_refused a_this_box a_this_row a_this_text a_this_numbers a_this_before v_states v_empty v_cut v_rowMany v_taken v_found v_textLong v_at v_stopped v_refused_73)) (rest := []) ⟨hx, hb, hml, hown, hts⟩ (c_X8_refuses l D cI cM a_this a_this_all a_this_past a_this_refused a_this_box a_this_row a_this_text a_this_numbers a_this_before H.size v_states v_empty v_cut v_rowMany v_taken v_found v_textLong v_at v_stopped v_refused hg73) (cwV 1 hts gX8_does_X8_refuses rfl rfl rfl (by decide +kernel) ⟨Nat.le_of_ble_eq_true rfl, Nat.le_of_ble_eq_true rfl⟩) hK hP hD hS hA [0, 1] [] [0, 1] rfl rfl rfl rfl rfl rfl (by decide) rfl rfl rfl hl.1 rfl (Nat.le_of_ble_eq_true rfl) dX8_does_73 (fun H locs hP hD hS => ?_)
    obtain ⟨q0, y0⟩ := o_rp hf
    have q1 := Option.some.inj y0
    subst q0 q1
    exact g_iret hx hb hr hlocks hP hD hK hS dX8_does_76
  · replace hf := o_f c48 hf
    refine lv_iload_n hx hb dX8_does_51 rfl (lv_at hl 2 rfl) ?_
    refine lv_iload_n hx hb dX8_does_52 rfl (lv_at hl 3 rfl) ?_
    refine lv_iload_n hx hb dX8_does_53 rfl (lv_at hl 4 rfl) ?_
    refine lv_iload hx hb dX8_does_54 (lv_at hl 5 rfl) ?_
    obtain ⟨r56, hg56, hf⟩ := o_b1_go hf
    refine g_callSi (rest := []) ⟨hx, hb, hml, hown, hts⟩ (c_X8_holds l hg56) (va_cwS 4 hts gX8_does_X8_holds rfl rfl rfl (by decide +kernel) ⟨Nat.le_of_ble_eq_true rfl, Nat.le_of_ble_eq_true rfl⟩) rfl hl.1 rfl (Nat.le_of_ble_eq_true rfl) dX8_does_56 ?_
    refine lv_if_eq (tgt := 66) hx hb dX8_does_59 (by decide) (fun c59 => ?_) (fun c59 => ?_)
    · replace hf := o_t c59 hf
      refine lv_iconst (v := 0) hx hb dX8_does_66 (by decide) ?_
      refine lv_goto (tgt := 76) hx hb dX8_does_67 (by decide) ?_
      obtain ⟨q0, y0⟩ := o_rp hf
      have q1 := Option.some.inj y0
      subst q0 q1
      exact g_iret hx hb hr hlocks hP hD hK hS dX8_does_76
    · replace hf := o_f c59 hf
      refine lv_iconst (v := 1) hx hb dX8_does_62 (by decide) ?_
      refine lv_goto (tgt := 76) hx hb dX8_does_63 (by decide) ?_
      obtain ⟨q0, y0⟩ := o_rp hf
      have q1 := Option.some.inj y0
      subst q0 q1
      exact g_iret hx hb hr hlocks hP hD hK hS dX8_does_76
def f_X8_does_B43  (v_refused : Nat → Int32) (x1 : Int32) (x2 : Int32) (x3 : Int32) (x4 : Int32) : Option (Int32 × (Nat → Int32)) :=
  f_X8_does_B44 v_refused x1 x2 x3 x4 0
set_option maxHeartbeats 4000000 in
set_option maxRecDepth 100000 in
theorem w_X8_does_B43 {p : Program} {l : Launch} {e : Env} {s : State} {m : MethodId} {args : Array Value} {below : List Frame} {meth : Method} {c : Code} {D : va_G} {cI cM : ClassId} {A : Nat → Prop} {a_this a_this_all a_this_past a_this_refused a_this_box a_this_row a_this_text a_this_numbers a_this_before : Nat} {v_states : Int32} {v_empty : Int32} {v_cut : Int32} {v_rowMany : Int32} {v_taken : Int32} {v_found : Int32} {v_textLong : Int32} {v_at : Int32} {v_stopped : Int32} {r : Int32} {o_refused : Nat → Int32} (C0 : g_cx cX8_does (some .int) 6 RX8 wsX8_does p s m args meth c) (hA : ∀ q, s.heap.size ≤ q → A q) (hK : va_K D vwCl (g_tys cI cM) s) : ∀ (v_refused : Nat → Int32) (x1 : Int32) (x2 : Int32) (x3 : Int32) (x4 : Int32) (H : Heap) (locs : List Loc) (ls : Array Slot), f_X8_does_B43 v_refused x1 x2 x3 x4 = some (r, o_refused) → va_P D vwCl (ww_X8_does cI cM a_this a_this_all a_this_past a_this_refused a_this_box a_this_row a_this_text a_this_numbers a_this_before v_states v_empty v_cut v_rowMany v_taken v_found v_textLong v_at v_stopped v_refused) H → va_D A (ww_X8_does cI cM a_this a_this_all a_this_past a_this_refused a_this_box a_this_row a_this_text a_this_numbers a_this_before v_states v_empty v_cut v_rowMany v_taken v_found v_textLong v_at v_stopped v_refused) → va_S A s.heap H locs → lv_has ls 6 [(0, .ref a_this), (1, .int x1), (2, .int x2), (3, .int x3), (4, .int x4)] → W p l e rm_X8_does s m args below meth c H locs 0 0 (MQ below (g_QI D (g_tys cI cM) A (ww_X8_does cI cM a_this a_this_all a_this_past a_this_refused a_this_box a_this_row a_this_text a_this_numbers a_this_before v_states v_empty v_cut v_rowMany v_taken v_found v_textLong v_at v_stopped o_refused) r) args s 0 0 A) (F0 m 43 ls []) := by
  obtain ⟨hx, hb, hr, hml, hown, hts, hlocks⟩ := id C0
  intro v_refused x1 x2 x3 x4 H locs ls hf hP hD hS hl
  unfold f_X8_does_B43 at hf
  refine lv_iconst (v := 0) hx hb dX8_does_43 (by decide) ?_
  exact w_X8_does_B44 C0 hA hK v_refused x1 x2 x3 x4 0 H locs ls hf hP hD hS (lv_sub hl [0, 1, 2, 3, 4] rfl)
def f_X8_does_B39  (v_refused : Nat → Int32) (x1 : Int32) (x2 : Int32) (x3 : Int32) (x4 : Int32) : Option (Int32 × (Nat → Int32)) :=
  f_X8_does_B44 v_refused x1 x2 x3 x4 1
set_option maxHeartbeats 4000000 in
set_option maxRecDepth 100000 in
theorem w_X8_does_B39 {p : Program} {l : Launch} {e : Env} {s : State} {m : MethodId} {args : Array Value} {below : List Frame} {meth : Method} {c : Code} {D : va_G} {cI cM : ClassId} {A : Nat → Prop} {a_this a_this_all a_this_past a_this_refused a_this_box a_this_row a_this_text a_this_numbers a_this_before : Nat} {v_states : Int32} {v_empty : Int32} {v_cut : Int32} {v_rowMany : Int32} {v_taken : Int32} {v_found : Int32} {v_textLong : Int32} {v_at : Int32} {v_stopped : Int32} {r : Int32} {o_refused : Nat → Int32} (C0 : g_cx cX8_does (some .int) 6 RX8 wsX8_does p s m args meth c) (hA : ∀ q, s.heap.size ≤ q → A q) (hK : va_K D vwCl (g_tys cI cM) s) : ∀ (v_refused : Nat → Int32) (x1 : Int32) (x2 : Int32) (x3 : Int32) (x4 : Int32) (H : Heap) (locs : List Loc) (ls : Array Slot), f_X8_does_B39 v_refused x1 x2 x3 x4 = some (r, o_refused) → va_P D vwCl (ww_X8_does cI cM a_this a_this_all a_this_past a_this_refused a_this_box a_this_row a_this_text a_this_numbers a_this_before v_states v_empty v_cut v_rowMany v_taken v_found v_textLong v_at v_stopped v_refused) H → va_D A (ww_X8_does cI cM a_this a_this_all a_this_past a_this_refused a_this_box a_this_row a_this_text a_this_numbers a_this_before v_states v_empty v_cut v_rowMany v_taken v_found v_textLong v_at v_stopped v_refused) → va_S A s.heap H locs → lv_has ls 6 [(0, .ref a_this), (1, .int x1), (2, .int x2), (3, .int x3), (4, .int x4)] → W p l e rm_X8_does s m args below meth c H locs 0 0 (MQ below (g_QI D (g_tys cI cM) A (ww_X8_does cI cM a_this a_this_all a_this_past a_this_refused a_this_box a_this_row a_this_text a_this_numbers a_this_before v_states v_empty v_cut v_rowMany v_taken v_found v_textLong v_at v_stopped o_refused) r) args s 0 0 A) (F0 m 39 ls []) := by
  obtain ⟨hx, hb, hr, hml, hown, hts, hlocks⟩ := id C0
  intro v_refused x1 x2 x3 x4 H locs ls hf hP hD hS hl
  unfold f_X8_does_B39 at hf
  refine lv_iconst (v := 1) hx hb dX8_does_39 (by decide) ?_
  refine lv_goto (tgt := 44) hx hb dX8_does_40 (by decide) ?_
  exact w_X8_does_B44 C0 hA hK v_refused x1 x2 x3 x4 1 H locs ls hf hP hD hS (lv_sub hl [0, 1, 2, 3, 4] rfl)
def f_X8_does  (v_refused : Nat → Int32) (x1 : Int32) (x2 : Int32) (x3 : Int32) (x4 : Int32) : Option (Int32 × (Nat → Int32)) :=
  o_b1 (f_X8_in x1.toInt64 0 5) (fun (r6 : Int32) =>
  if r6 = 0 then
    f_X8_does_B43 v_refused x1 x2 x3 x4
  else
    o_b1 (f_X8_isPlace x2) (fun (r13 : Int32) =>
    if r13 = 0 then
      f_X8_does_B43 v_refused x1 x2 x3 x4
    else
      o_b1 (f_X8_isPlace x3) (fun (r20 : Int32) =>
      if r20 = 0 then
        f_X8_does_B43 v_refused x1 x2 x3 x4
      else
        if 3 ≤ x1 then
          f_X8_does_B39 v_refused x1 x2 x3 x4
        else
          o_b1 (f_X8_isPlace x4) (fun (r33 : Int32) =>
          if r33 = 0 then
            f_X8_does_B43 v_refused x1 x2 x3 x4
          else
            f_X8_does_B39 v_refused x1 x2 x3 x4))))
set_option maxHeartbeats 4000000 in
set_option maxRecDepth 100000 in
theorem w_X8_does_B0 {p : Program} {l : Launch} {e : Env} {s : State} {m : MethodId} {args : Array Value} {below : List Frame} {meth : Method} {c : Code} {D : va_G} {cI cM : ClassId} {A : Nat → Prop} {a_this a_this_all a_this_past a_this_refused a_this_box a_this_row a_this_text a_this_numbers a_this_before : Nat} {v_states : Int32} {v_empty : Int32} {v_cut : Int32} {v_rowMany : Int32} {v_taken : Int32} {v_found : Int32} {v_textLong : Int32} {v_at : Int32} {v_stopped : Int32} {r : Int32} {o_refused : Nat → Int32} (C0 : g_cx cX8_does (some .int) 6 RX8 wsX8_does p s m args meth c) (hA : ∀ q, s.heap.size ≤ q → A q) (hK : va_K D vwCl (g_tys cI cM) s) : ∀ (v_refused : Nat → Int32) (x1 : Int32) (x2 : Int32) (x3 : Int32) (x4 : Int32) (H : Heap) (locs : List Loc) (ls : Array Slot), f_X8_does v_refused x1 x2 x3 x4 = some (r, o_refused) → va_P D vwCl (ww_X8_does cI cM a_this a_this_all a_this_past a_this_refused a_this_box a_this_row a_this_text a_this_numbers a_this_before v_states v_empty v_cut v_rowMany v_taken v_found v_textLong v_at v_stopped v_refused) H → va_D A (ww_X8_does cI cM a_this a_this_all a_this_past a_this_refused a_this_box a_this_row a_this_text a_this_numbers a_this_before v_states v_empty v_cut v_rowMany v_taken v_found v_textLong v_at v_stopped v_refused) → va_S A s.heap H locs → lv_has ls 6 [(0, .ref a_this), (1, .int x1), (2, .int x2), (3, .int x3), (4, .int x4)] → W p l e rm_X8_does s m args below meth c H locs 0 0 (MQ below (g_QI D (g_tys cI cM) A (ww_X8_does cI cM a_this a_this_all a_this_past a_this_refused a_this_box a_this_row a_this_text a_this_numbers a_this_before v_states v_empty v_cut v_rowMany v_taken v_found v_textLong v_at v_stopped o_refused) r) args s 0 0 A) (F0 m 0 ls []) := by
  obtain ⟨hx, hb, hr, hml, hown, hts, hlocks⟩ := id C0
  intro v_refused x1 x2 x3 x4 H locs ls hf hP hD hS hl
  unfold f_X8_does at hf
  refine lv_iload_n hx hb dX8_does_0 rfl (lv_at hl 1 rfl) ?_
  refine lv_i2l hx hb dX8_does_1 rfl ?_
  refine lv_lconst (v := 0) hx hb dX8_does_2 (by decide) ?_
  refine lv_ldc2 (v := 5) hx hb hown (hts (.constantLong RX8 103 (5)) (List.mem_cons_of_mem _ (List.mem_append_left _ (List.mem_append_left _ (List.mem_of_getElem? (i := 0) rfl))))) dX8_does_3 ?_
  obtain ⟨r6, hg6, hf⟩ := o_b1_go hf
  refine g_callSi (rest := []) ⟨hx, hb, hml, hown, hts⟩ (c_X8_in l hg6) (va_cwS 3 hts gX8_does_X8_in rfl rfl rfl (by decide +kernel) ⟨Nat.le_of_ble_eq_true rfl, Nat.le_of_ble_eq_true rfl⟩) rfl hl.1 rfl (Nat.le_of_ble_eq_true rfl) dX8_does_6 ?_
  refine lv_if_eq (tgt := 43) hx hb dX8_does_9 (by decide) (fun c9 => ?_) (fun c9 => ?_)
  · replace hf := o_t c9 hf
    exact w_X8_does_B43 C0 hA hK v_refused x1 x2 x3 x4 H locs ls hf hP hD hS (lv_sub hl [0, 1, 2, 3, 4] rfl)
  · replace hf := o_f c9 hf
    refine lv_iload_n hx hb dX8_does_12 rfl (lv_at hl 2 rfl) ?_
    obtain ⟨r13, hg13, hf⟩ := o_b1_go hf
    refine g_callSi (rest := []) ⟨hx, hb, hml, hown, hts⟩ (c_X8_isPlace l hg13) (va_cwS 1 hts gX8_does_X8_isPlace rfl rfl rfl (by decide +kernel) ⟨Nat.le_of_ble_eq_true rfl, Nat.le_of_ble_eq_true rfl⟩) rfl hl.1 rfl (Nat.le_of_ble_eq_true rfl) dX8_does_13 ?_
    refine lv_if_eq (tgt := 43) hx hb dX8_does_16 (by decide) (fun c16 => ?_) (fun c16 => ?_)
    · replace hf := o_t c16 hf
      exact w_X8_does_B43 C0 hA hK v_refused x1 x2 x3 x4 H locs ls hf hP hD hS (lv_sub hl [0, 1, 2, 3, 4] rfl)
    · replace hf := o_f c16 hf
      refine lv_iload_n hx hb dX8_does_19 rfl (lv_at hl 3 rfl) ?_
      obtain ⟨r20, hg20, hf⟩ := o_b1_go hf
      refine g_callSi (rest := []) ⟨hx, hb, hml, hown, hts⟩ (c_X8_isPlace l hg20) (va_cwS 1 hts gX8_does_X8_isPlace rfl rfl rfl (by decide +kernel) ⟨Nat.le_of_ble_eq_true rfl, Nat.le_of_ble_eq_true rfl⟩) rfl hl.1 rfl (Nat.le_of_ble_eq_true rfl) dX8_does_20 ?_
      refine lv_if_eq (tgt := 43) hx hb dX8_does_23 (by decide) (fun c23 => ?_) (fun c23 => ?_)
      · replace hf := o_t c23 hf
        exact w_X8_does_B43 C0 hA hK v_refused x1 x2 x3 x4 H locs ls hf hP hD hS (lv_sub hl [0, 1, 2, 3, 4] rfl)
      · replace hf := o_f c23 hf
        refine lv_iload_n hx hb dX8_does_26 rfl (lv_at hl 1 rfl) ?_
        refine lv_iconst (v := 3) hx hb dX8_does_27 (by decide) ?_
        refine lv_icmp_ge (tgt := 39) hx hb dX8_does_28 (by decide) (fun c28 => ?_) (fun c28 => ?_)
        · replace hf := o_t c28 hf
          exact w_X8_does_B39 C0 hA hK v_refused x1 x2 x3 x4 H locs ls hf hP hD hS (lv_sub hl [0, 1, 2, 3, 4] rfl)
        · replace hf := o_f c28 hf
          refine lv_iload hx hb dX8_does_31 (lv_at hl 4 rfl) ?_
          obtain ⟨r33, hg33, hf⟩ := o_b1_go hf
          refine g_callSi (rest := []) ⟨hx, hb, hml, hown, hts⟩ (c_X8_isPlace l hg33) (va_cwS 1 hts gX8_does_X8_isPlace rfl rfl rfl (by decide +kernel) ⟨Nat.le_of_ble_eq_true rfl, Nat.le_of_ble_eq_true rfl⟩) rfl hl.1 rfl (Nat.le_of_ble_eq_true rfl) dX8_does_33 ?_
          refine lv_if_eq (tgt := 43) hx hb dX8_does_36 (by decide) (fun c36 => ?_) (fun c36 => ?_)
          · replace hf := o_t c36 hf
            exact w_X8_does_B43 C0 hA hK v_refused x1 x2 x3 x4 H locs ls hf hP hD hS (lv_sub hl [0, 1, 2, 3, 4] rfl)
          · replace hf := o_f c36 hf
            exact w_X8_does_B39 C0 hA hK v_refused x1 x2 x3 x4 H locs ls hf hP hD hS (lv_sub hl [0, 1, 2, 3, 4] rfl)
set_option maxHeartbeats 4000000 in
set_option maxRecDepth 100000 in
theorem c_X8_does (l : Launch) (D : va_G) (cI cM : ClassId) (a_this a_this_all a_this_past a_this_refused a_this_box a_this_row a_this_text a_this_numbers a_this_before : Nat) (sz : Nat) (v_states : Int32) (v_empty : Int32) (v_cut : Int32) (v_rowMany : Int32) (v_taken : Int32) (v_found : Int32) (v_textLong : Int32) (v_at : Int32) (v_stopped : Int32) (v_refused : Nat → Int32) {x1 : Int32} {x2 : Int32} {x3 : Int32} {x4 : Int32} {r : Int32} {o_refused : Nat → Int32} (hf : f_X8_does v_refused x1 x2 x3 x4 = some (r, o_refused)) : Met l yX8_does wsX8_does rm_X8_does (g_Pc D (g_tys cI cM) (ww_X8_does cI cM a_this a_this_all a_this_past a_this_refused a_this_box a_this_row a_this_text a_this_numbers a_this_before v_states v_empty v_cut v_rowMany v_taken v_found v_textLong v_at v_stopped v_refused) sz [.ref a_this, .int x1, .int x2, .int x3, .int x4]) (g_QI D (g_tys cI cM) (va_A (ww_X8_does cI cM a_this a_this_all a_this_past a_this_refused a_this_box a_this_row a_this_text a_this_numbers a_this_before v_states v_empty v_cut v_rowMany v_taken v_found v_textLong v_at v_stopped v_refused) sz) (ww_X8_does cI cM a_this a_this_all a_this_past a_this_refused a_this_box a_this_row a_this_text a_this_numbers a_this_before v_states v_empty v_cut v_rowMany v_taken v_found v_textLong v_at v_stopped o_refused) r) 0 0 (va_A (ww_X8_does cI cM a_this a_this_all a_this_past a_this_refused a_this_box a_this_row a_this_text a_this_numbers a_this_before v_states v_empty v_cut v_rowMany v_taken v_found v_textLong v_at v_stopped v_refused) sz) := by
  refine g_met (cc := cX8_does) (maxL := 6) (ret := (some .int)) (Qc := fun D A => g_QI D (g_tys cI cM) A (ww_X8_does cI cM a_this a_this_all a_this_past a_this_refused a_this_box a_this_row a_this_text a_this_numbers a_this_before v_states v_empty v_cut v_rowMany v_taken v_found v_textLong v_at v_stopped o_refused) r) (by decide) rfl ?_
  intro p e s m below meth c A C0 hA hK hP hD
  have hl := lv_entry ([.ref a_this, .int x1, .int x2, .int x3, .int x4]) (n := 6) (Nat.le_of_ble_eq_true rfl)
  rw [lg_entry_eq]
  generalize (lg_sl ([.ref a_this, .int x1, .int x2, .int x3, .int x4]) ++ List.replicate (6 - (lg_sl ([.ref a_this, .int x1, .int x2, .int x3, .int x4])).length) Slot.unset).toArray = ls at hl ⊢
  have hl : lv_has ls 6 [(0, .ref a_this), (1, .int x1), (2, .int x2), (3, .int x3), (4, .int x4)] := hl
  exact w_X8_does_B0 C0 hA hK v_refused x1 x2 x3 x4 s.heap [] ls hf hP hD va_S.rf (lv_sub hl [0, 1, 2, 3, 4] rfl)
/-! FloatBoxesModel.puts(III)V -/
abbrev rm_X8_puts : Room := { frames := 0, cells := 0, slots := 0, locals := 0 }
abbrev ww_X8_puts (cI cM : ClassId) (a_this a_this_all a_this_past a_this_refused a_this_box a_this_row a_this_text a_this_numbers a_this_before : Nat) (v_states : Int32) (v_empty : Int32) (v_cut : Int32) (v_rowMany : Int32) (v_taken : Int32) (v_found : Int32) (v_textLong : Int32) (v_at : Int32) (v_stopped : Int32) (v_row : Nat → Int32) (v_box : Nat → Int32) : va_W := [(a_this, .inr (6, [.ref a_this_all, .ref a_this_past, .int v_states, .ref a_this_refused, .ref a_this_box, .int v_empty, .int v_cut, .ref a_this_row, .int v_rowMany, .int v_taken, .int v_found, .ref a_this_text, .int v_textLong, .int v_at, .ref a_this_numbers, .int v_stopped, .ref a_this_before])), (a_this_row, .inl (cI, 768, .inl v_row)), (a_this_box, .inl (cI, 12, .inl v_box))]
def f_X8_puts_B78 (N : Nat) (v_box : Nat → Int32) (v_rowMany : Int32) (v_row : Nat → Int32) : Option (Int32 × (Nat → Int32)) :=
  some (v_rowMany + 1, v_row)
set_option maxHeartbeats 4000000 in
set_option maxRecDepth 100000 in
theorem w_X8_puts_B78 {p : Program} {l : Launch} {e : Env} {s : State} {m : MethodId} {args : Array Value} {below : List Frame} {meth : Method} {c : Code} {D : va_G} {cI cM : ClassId} {A : Nat → Prop} {a_this a_this_all a_this_past a_this_refused a_this_box a_this_row a_this_text a_this_numbers a_this_before : Nat} {v_states : Int32} {v_empty : Int32} {v_cut : Int32} {v_taken : Int32} {v_found : Int32} {v_textLong : Int32} {v_at : Int32} {v_stopped : Int32} {N : Nat} {v_box : Nat → Int32} {o_rowMany : Int32} {o_row : Nat → Int32} (C0 : g_cx cX8_puts none 5 RX8 wsX8_puts p s m args meth c) (hA : ∀ q, s.heap.size ≤ q → A q) (hK : va_K D vwCl (g_tys cI cM) s) : ∀ (v_rowMany : Int32) (v_row : Nat → Int32) (H : Heap) (locs : List Loc) (ls : Array Slot), f_X8_puts_B78 N v_box v_rowMany v_row = some (o_rowMany, o_row) → va_P D vwCl (ww_X8_puts cI cM a_this a_this_all a_this_past a_this_refused a_this_box a_this_row a_this_text a_this_numbers a_this_before v_states v_empty v_cut v_rowMany v_taken v_found v_textLong v_at v_stopped v_row v_box) H → va_D A (ww_X8_puts cI cM a_this a_this_all a_this_past a_this_refused a_this_box a_this_row a_this_text a_this_numbers a_this_before v_states v_empty v_cut v_rowMany v_taken v_found v_textLong v_at v_stopped v_row v_box) → va_S A s.heap H locs → lv_has ls 5 [(0, .ref a_this)] → W p l e rm_X8_puts s m args below meth c H locs 0 0 (MQ below (g_QV D (g_tys cI cM) A (ww_X8_puts cI cM a_this a_this_all a_this_past a_this_refused a_this_box a_this_row a_this_text a_this_numbers a_this_before v_states v_empty v_cut o_rowMany v_taken v_found v_textLong v_at v_stopped o_row v_box)) args s 0 0 A) (F0 m 78 ls []) := by
  obtain ⟨hx, hb, hr, hml, hown, hts, hlocks⟩ := id C0
  intro v_rowMany v_row H locs ls hf hP hD hS hl
  unfold f_X8_puts_B78 at hf
  refine lv_aload_n hx hb dX8_puts_78 rfl (lv_at hl 0 rfl) ?_
  refine lv_dup hx hb dX8_puts_79 rfl ?_
  refine va_get (D := D) (ci := 6) (v := .int v_rowMany) (C := RX8) (T := TX8) (N := 17) hx hb hts (fun _ h => (List.mem_cons_of_mem _ (List.mem_append_right _ h))) hown hK hP 0 rfl rfl 8 (by decide) (hts (.fieldLink RX8 234 "FloatBoxesModel" "rowMany" "I") (List.mem_cons_of_mem _ (List.mem_append_left _ (List.mem_of_getElem? (i := 1) rfl)))) (fun _ h9 => h9) rfl dX8_puts_80 ?_
  refine lv_iconst (v := 1) hx hb dX8_puts_83 (by decide) ?_
  refine lv_iadd hx hb dX8_puts_84 ?_
  refine va_put (D := D) (ci := 6) (v := .int (v_rowMany + 1)) (ty := .int) (C := RX8) (T := TX8) (N := 17) hx hb hts (fun _ h => (List.mem_cons_of_mem _ (List.mem_append_right _ h))) tyX8 tyX8_ok nmX8 hown hK hP hD hS 0 rfl rfl 8 (by decide) (hts (.fieldLink RX8 234 "FloatBoxesModel" "rowMany" "I") (List.mem_cons_of_mem _ (List.mem_append_left _ (List.mem_of_getElem? (i := 1) rfl)))) (fun _ h9 => h9) rfl (by decide +kernel) rfl rfl (Nat.le_of_ble_eq_true rfl) dX8_puts_85 (fun H locs hP hD hS => ?_)
  replace hP : va_P D vwCl (ww_X8_puts cI cM a_this a_this_all a_this_past a_this_refused a_this_box a_this_row a_this_text a_this_numbers a_this_before v_states v_empty v_cut (v_rowMany + 1) v_taken v_found v_textLong v_at v_stopped v_row v_box) H := hP
  replace hD : va_D A (ww_X8_puts cI cM a_this a_this_all a_this_past a_this_refused a_this_box a_this_row a_this_text a_this_numbers a_this_before v_states v_empty v_cut (v_rowMany + 1) v_taken v_found v_textLong v_at v_stopped v_row v_box) := hD
  obtain ⟨q0, y0⟩ := o_rp hf
  have q1 := Option.some.inj y0
  subst q0 q1
  exact g_vret hx hb hr hlocks hP hD hK hS dX8_puts_88
def f_X8_puts_C3 (N : Nat) (v_box : Nat → Int32) (k3 : Int32 → (Nat → Int32) → Int32 → Int32 → Int32 → Int32 → Option (Int32 × (Nat → Int32))) (v_rowMany : Int32) (v_row : Nat → Int32) (x1 : Int32) (x2 : Int32) (x3 : Int32) (x4 : Int32) : Option (Int32 × (Nat → Int32)) :=
  if 12 ≤ x4 then
    if x1 < 0 then
      f_X8_puts_B78 N v_box v_rowMany v_row
    else
      o_in ((12 * v_rowMany) + (2 * x1)) 768 (
      o_in (((12 * v_rowMany) + (2 * x1)) + 1) 768 (
      f_X8_puts_B78 N v_box v_rowMany (upd (upd v_row ((12 * v_rowMany) + (2 * x1)).toNatClampNeg x2) (((12 * v_rowMany) + (2 * x1)) + 1).toNatClampNeg x3)))
  else
    o_in x4 12 (
    o_in ((12 * v_rowMany) + x4) 768 (
    k3 v_rowMany (upd v_row ((12 * v_rowMany) + x4).toNatClampNeg (v_box x4.toNatClampNeg)) x1 x2 x3 (x4 + 1)))
def f_X8_puts_L3 (N : Nat) (v_box : Nat → Int32) : Nat → Int32 → (Nat → Int32) → Int32 → Int32 → Int32 → Int32 → Option (Int32 × (Nat → Int32))
  | 0 => fun _ _ _ _ _ _ => none
  | n + 1 => f_X8_puts_C3 N v_box (f_X8_puts_L3 N v_box n)
set_option maxHeartbeats 4000000 in
set_option maxRecDepth 100000 in
theorem w_X8_puts_C3 {p : Program} {l : Launch} {e : Env} {s : State} {m : MethodId} {args : Array Value} {below : List Frame} {meth : Method} {c : Code} {D : va_G} {cI cM : ClassId} {A : Nat → Prop} {a_this a_this_all a_this_past a_this_refused a_this_box a_this_row a_this_text a_this_numbers a_this_before : Nat} {v_states : Int32} {v_empty : Int32} {v_cut : Int32} {v_taken : Int32} {v_found : Int32} {v_textLong : Int32} {v_at : Int32} {v_stopped : Int32} {N : Nat} {v_box : Nat → Int32} {o_rowMany : Int32} {o_row : Nat → Int32} (C0 : g_cx cX8_puts none 5 RX8 wsX8_puts p s m args meth c) (hA : ∀ q, s.heap.size ≤ q → A q) (hK : va_K D vwCl (g_tys cI cM) s) (k3 : Int32 → (Nat → Int32) → Int32 → Int32 → Int32 → Int32 → Option (Int32 × (Nat → Int32))) (hk3 : ∀ (v_rowMany : Int32) (v_row : Nat → Int32) (x1 : Int32) (x2 : Int32) (x3 : Int32) (x4 : Int32) (H : Heap) (locs : List Loc) (ls : Array Slot), k3 v_rowMany v_row x1 x2 x3 x4 = some (o_rowMany, o_row) → va_P D vwCl (ww_X8_puts cI cM a_this a_this_all a_this_past a_this_refused a_this_box a_this_row a_this_text a_this_numbers a_this_before v_states v_empty v_cut v_rowMany v_taken v_found v_textLong v_at v_stopped v_row v_box) H → va_D A (ww_X8_puts cI cM a_this a_this_all a_this_past a_this_refused a_this_box a_this_row a_this_text a_this_numbers a_this_before v_states v_empty v_cut v_rowMany v_taken v_found v_textLong v_at v_stopped v_row v_box) → va_S A s.heap H locs → lv_has ls 5 [(0, .ref a_this), (1, .int x1), (2, .int x2), (3, .int x3), (4, .int x4)] → W p l e rm_X8_puts s m args below meth c H locs 0 0 (MQ below (g_QV D (g_tys cI cM) A (ww_X8_puts cI cM a_this a_this_all a_this_past a_this_refused a_this_box a_this_row a_this_text a_this_numbers a_this_before v_states v_empty v_cut o_rowMany v_taken v_found v_textLong v_at v_stopped o_row v_box)) args s 0 0 A) (F0 m 3 ls [])) : ∀ (v_rowMany : Int32) (v_row : Nat → Int32) (x1 : Int32) (x2 : Int32) (x3 : Int32) (x4 : Int32) (H : Heap) (locs : List Loc) (ls : Array Slot), f_X8_puts_C3 N v_box k3 v_rowMany v_row x1 x2 x3 x4 = some (o_rowMany, o_row) → va_P D vwCl (ww_X8_puts cI cM a_this a_this_all a_this_past a_this_refused a_this_box a_this_row a_this_text a_this_numbers a_this_before v_states v_empty v_cut v_rowMany v_taken v_found v_textLong v_at v_stopped v_row v_box) H → va_D A (ww_X8_puts cI cM a_this a_this_all a_this_past a_this_refused a_this_box a_this_row a_this_text a_this_numbers a_this_before v_states v_empty v_cut v_rowMany v_taken v_found v_textLong v_at v_stopped v_row v_box) → va_S A s.heap H locs → lv_has ls 5 [(0, .ref a_this), (1, .int x1), (2, .int x2), (3, .int x3), (4, .int x4)] → W p l e rm_X8_puts s m args below meth c H locs 0 0 (MQ below (g_QV D (g_tys cI cM) A (ww_X8_puts cI cM a_this a_this_all a_this_past a_this_refused a_this_box a_this_row a_this_text a_this_numbers a_this_before v_states v_empty v_cut o_rowMany v_taken v_found v_textLong v_at v_stopped o_row v_box)) args s 0 0 A) (F0 m 3 ls []) := by
  obtain ⟨hx, hb, hr, hml, hown, hts, hlocks⟩ := id C0
  intro v_rowMany v_row x1 x2 x3 x4 H locs ls hf hP hD hS hl
  unfold f_X8_puts_C3 at hf
  refine lv_iload hx hb dX8_puts_3 (lv_at hl 4 rfl) ?_
  refine lv_bipush (v := 12) hx hb dX8_puts_5 (by decide) ?_
  refine lv_icmp_ge (tgt := 38) hx hb dX8_puts_7 (by decide) (fun c7 => ?_) (fun c7 => ?_)
  · replace hf := o_t c7 hf
    refine lv_iload_n hx hb dX8_puts_38 rfl (lv_at hl 1 rfl) ?_
    refine lv_if_lt (tgt := 78) hx hb dX8_puts_39 (by decide) (fun c39 => ?_) (fun c39 => ?_)
    · replace hf := o_t c39 hf
      exact w_X8_puts_B78 C0 hA hK v_rowMany v_row H locs ls hf hP hD hS (lv_sub hl [0] rfl)
    · replace hf := o_f c39 hf
      refine lv_aload_n hx hb dX8_puts_42 rfl (lv_at hl 0 rfl) ?_
      refine va_get (D := D) (ci := 6) (v := .ref a_this_row) (C := RX8) (T := TX8) (N := 17) hx hb hts (fun _ h => (List.mem_cons_of_mem _ (List.mem_append_right _ h))) hown hK hP 0 rfl rfl 7 (by decide) (hts (.fieldLink RX8 22 "FloatBoxesModel" "row" "[I") (List.mem_cons_of_mem _ (List.mem_append_left _ (List.mem_of_getElem? (i := 0) rfl)))) (fun _ h9 => h9) rfl dX8_puts_43 ?_
      refine lv_bipush (v := 12) hx hb dX8_puts_46 (by decide) ?_
      refine lv_aload_n hx hb dX8_puts_48 rfl (lv_at hl 0 rfl) ?_
      refine va_get (D := D) (ci := 6) (v := .int v_rowMany) (C := RX8) (T := TX8) (N := 17) hx hb hts (fun _ h => (List.mem_cons_of_mem _ (List.mem_append_right _ h))) hown hK hP 0 rfl rfl 8 (by decide) (hts (.fieldLink RX8 234 "FloatBoxesModel" "rowMany" "I") (List.mem_cons_of_mem _ (List.mem_append_left _ (List.mem_of_getElem? (i := 1) rfl)))) (fun _ h9 => h9) rfl dX8_puts_49 ?_
      refine lv_imul hx hb dX8_puts_52 ?_
      refine lv_iconst (v := 2) hx hb dX8_puts_53 (by decide) ?_
      refine lv_iload_n hx hb dX8_puts_54 rfl (lv_at hl 1 rfl) ?_
      refine lv_imul hx hb dX8_puts_55 ?_
      refine lv_iadd hx hb dX8_puts_56 ?_
      refine lv_iload_n hx hb dX8_puts_57 rfl (lv_at hl 2 rfl) ?_
      obtain ⟨h58, hf⟩ := o_in_go hf
      refine va_iast hx hb hK hP hD hS 1 0 rfl rfl h58 dX8_puts_58 (fun H locs hP hD hS => ?_)
      replace hP : va_P D vwCl (ww_X8_puts cI cM a_this a_this_all a_this_past a_this_refused a_this_box a_this_row a_this_text a_this_numbers a_this_before v_states v_empty v_cut v_rowMany v_taken v_found v_textLong v_at v_stopped (upd v_row ((12 * v_rowMany) + (2 * x1)).toNatClampNeg x2) v_box) H := hP
      replace hD : va_D A (ww_X8_puts cI cM a_this a_this_all a_this_past a_this_refused a_this_box a_this_row a_this_text a_this_numbers a_this_before v_states v_empty v_cut v_rowMany v_taken v_found v_textLong v_at v_stopped (upd v_row ((12 * v_rowMany) + (2 * x1)).toNatClampNeg x2) v_box) := hD
      refine lv_aload_n hx hb dX8_puts_59 rfl (lv_at hl 0 rfl) ?_
      refine va_get (D := D) (ci := 6) (v := .ref a_this_row) (C := RX8) (T := TX8) (N := 17) hx hb hts (fun _ h => (List.mem_cons_of_mem _ (List.mem_append_right _ h))) hown hK hP 0 rfl rfl 7 (by decide) (hts (.fieldLink RX8 22 "FloatBoxesModel" "row" "[I") (List.mem_cons_of_mem _ (List.mem_append_left _ (List.mem_of_getElem? (i := 0) rfl)))) (fun _ h9 => h9) rfl dX8_puts_60 ?_
      refine lv_bipush (v := 12) hx hb dX8_puts_63 (by decide) ?_
      refine lv_aload_n hx hb dX8_puts_65 rfl (lv_at hl 0 rfl) ?_
      refine va_get (D := D) (ci := 6) (v := .int v_rowMany) (C := RX8) (T := TX8) (N := 17) hx hb hts (fun _ h => (List.mem_cons_of_mem _ (List.mem_append_right _ h))) hown hK hP 0 rfl rfl 8 (by decide) (hts (.fieldLink RX8 234 "FloatBoxesModel" "rowMany" "I") (List.mem_cons_of_mem _ (List.mem_append_left _ (List.mem_of_getElem? (i := 1) rfl)))) (fun _ h9 => h9) rfl dX8_puts_66 ?_
      refine lv_imul hx hb dX8_puts_69 ?_
      refine lv_iconst (v := 2) hx hb dX8_puts_70 (by decide) ?_
      refine lv_iload_n hx hb dX8_puts_71 rfl (lv_at hl 1 rfl) ?_
      refine lv_imul hx hb dX8_puts_72 ?_
      refine lv_iadd hx hb dX8_puts_73 ?_
      refine lv_iconst (v := 1) hx hb dX8_puts_74 (by decide) ?_
      refine lv_iadd hx hb dX8_puts_75 ?_
      refine lv_iload_n hx hb dX8_puts_76 rfl (lv_at hl 3 rfl) ?_
      obtain ⟨h77, hf⟩ := o_in_go hf
      refine va_iast hx hb hK hP hD hS 1 0 rfl rfl h77 dX8_puts_77 (fun H locs hP hD hS => ?_)
      replace hP : va_P D vwCl (ww_X8_puts cI cM a_this a_this_all a_this_past a_this_refused a_this_box a_this_row a_this_text a_this_numbers a_this_before v_states v_empty v_cut v_rowMany v_taken v_found v_textLong v_at v_stopped (upd (upd v_row ((12 * v_rowMany) + (2 * x1)).toNatClampNeg x2) (((12 * v_rowMany) + (2 * x1)) + 1).toNatClampNeg x3) v_box) H := hP
      replace hD : va_D A (ww_X8_puts cI cM a_this a_this_all a_this_past a_this_refused a_this_box a_this_row a_this_text a_this_numbers a_this_before v_states v_empty v_cut v_rowMany v_taken v_found v_textLong v_at v_stopped (upd (upd v_row ((12 * v_rowMany) + (2 * x1)).toNatClampNeg x2) (((12 * v_rowMany) + (2 * x1)) + 1).toNatClampNeg x3) v_box) := hD
      exact w_X8_puts_B78 C0 hA hK v_rowMany (upd (upd v_row ((12 * v_rowMany) + (2 * x1)).toNatClampNeg x2) (((12 * v_rowMany) + (2 * x1)) + 1).toNatClampNeg x3) H locs ls hf hP hD hS (lv_sub hl [0] rfl)
  · replace hf := o_f c7 hf
    refine lv_aload_n hx hb dX8_puts_10 rfl (lv_at hl 0 rfl) ?_
    refine va_get (D := D) (ci := 6) (v := .ref a_this_row) (C := RX8) (T := TX8) (N := 17) hx hb hts (fun _ h => (List.mem_cons_of_mem _ (List.mem_append_right _ h))) hown hK hP 0 rfl rfl 7 (by decide) (hts (.fieldLink RX8 22 "FloatBoxesModel" "row" "[I") (List.mem_cons_of_mem _ (List.mem_append_left _ (List.mem_of_getElem? (i := 0) rfl)))) (fun _ h9 => h9) rfl dX8_puts_11 ?_
    refine lv_bipush (v := 12) hx hb dX8_puts_14 (by decide) ?_
    refine lv_aload_n hx hb dX8_puts_16 rfl (lv_at hl 0 rfl) ?_
    refine va_get (D := D) (ci := 6) (v := .int v_rowMany) (C := RX8) (T := TX8) (N := 17) hx hb hts (fun _ h => (List.mem_cons_of_mem _ (List.mem_append_right _ h))) hown hK hP 0 rfl rfl 8 (by decide) (hts (.fieldLink RX8 234 "FloatBoxesModel" "rowMany" "I") (List.mem_cons_of_mem _ (List.mem_append_left _ (List.mem_of_getElem? (i := 1) rfl)))) (fun _ h9 => h9) rfl dX8_puts_17 ?_
    refine lv_imul hx hb dX8_puts_20 ?_
    refine lv_iload hx hb dX8_puts_21 (lv_at hl 4 rfl) ?_
    refine lv_iadd hx hb dX8_puts_23 ?_
    refine lv_aload_n hx hb dX8_puts_24 rfl (lv_at hl 0 rfl) ?_
    refine va_get (D := D) (ci := 6) (v := .ref a_this_box) (C := RX8) (T := TX8) (N := 17) hx hb hts (fun _ h => (List.mem_cons_of_mem _ (List.mem_append_right _ h))) hown hK hP 0 rfl rfl 4 (by decide) (hts (.fieldLink RX8 19 "FloatBoxesModel" "box" "[I") (List.mem_cons_of_mem _ (List.mem_append_left _ (List.mem_of_getElem? (i := 2) rfl)))) (fun _ h9 => h9) rfl dX8_puts_25 ?_
    refine lv_iload hx hb dX8_puts_28 (lv_at hl 4 rfl) ?_
    obtain ⟨h30, hf⟩ := o_in_go hf
    refine va_iald hx hb hK hP 2 0 rfl rfl h30 dX8_puts_30 ?_
    obtain ⟨h31, hf⟩ := o_in_go hf
    refine va_iast hx hb hK hP hD hS 1 0 rfl rfl h31 dX8_puts_31 (fun H locs hP hD hS => ?_)
    replace hP : va_P D vwCl (ww_X8_puts cI cM a_this a_this_all a_this_past a_this_refused a_this_box a_this_row a_this_text a_this_numbers a_this_before v_states v_empty v_cut v_rowMany v_taken v_found v_textLong v_at v_stopped (upd v_row ((12 * v_rowMany) + x4).toNatClampNeg (v_box x4.toNatClampNeg)) v_box) H := hP
    replace hD : va_D A (ww_X8_puts cI cM a_this a_this_all a_this_past a_this_refused a_this_box a_this_row a_this_text a_this_numbers a_this_before v_states v_empty v_cut v_rowMany v_taken v_found v_textLong v_at v_stopped (upd v_row ((12 * v_rowMany) + x4).toNatClampNeg (v_box x4.toNatClampNeg)) v_box) := hD
    refine lv_iinc (v := x4 + 1) (lv' := [(4, .int (x4 + 1)), (0, .ref a_this), (1, .int x1), (2, .int x2), (3, .int x3)]) hx hb dX8_puts_32 hl (k := 4) rfl rfl (by decide) rfl (fun ls hl => ?_)
    refine lv_goto (tgt := 3) hx hb dX8_puts_35 (by decide) ?_
    exact hk3 v_rowMany (upd v_row ((12 * v_rowMany) + x4).toNatClampNeg (v_box x4.toNatClampNeg)) x1 x2 x3 (x4 + 1) H locs ls hf hP hD hS (lv_sub hl [1, 2, 3, 4, 0] rfl)
set_option maxHeartbeats 4000000 in
set_option maxRecDepth 100000 in
theorem w_X8_puts_L3 {p : Program} {l : Launch} {e : Env} {s : State} {m : MethodId} {args : Array Value} {below : List Frame} {meth : Method} {c : Code} {D : va_G} {cI cM : ClassId} {A : Nat → Prop} {a_this a_this_all a_this_past a_this_refused a_this_box a_this_row a_this_text a_this_numbers a_this_before : Nat} {v_states : Int32} {v_empty : Int32} {v_cut : Int32} {v_taken : Int32} {v_found : Int32} {v_textLong : Int32} {v_at : Int32} {v_stopped : Int32} {N : Nat} {v_box : Nat → Int32} {o_rowMany : Int32} {o_row : Nat → Int32} (C0 : g_cx cX8_puts none 5 RX8 wsX8_puts p s m args meth c) (hA : ∀ q, s.heap.size ≤ q → A q) (hK : va_K D vwCl (g_tys cI cM) s) : ∀ n : Nat, ∀ (v_rowMany : Int32) (v_row : Nat → Int32) (x1 : Int32) (x2 : Int32) (x3 : Int32) (x4 : Int32) (H : Heap) (locs : List Loc) (ls : Array Slot), f_X8_puts_L3 N v_box n v_rowMany v_row x1 x2 x3 x4 = some (o_rowMany, o_row) → va_P D vwCl (ww_X8_puts cI cM a_this a_this_all a_this_past a_this_refused a_this_box a_this_row a_this_text a_this_numbers a_this_before v_states v_empty v_cut v_rowMany v_taken v_found v_textLong v_at v_stopped v_row v_box) H → va_D A (ww_X8_puts cI cM a_this a_this_all a_this_past a_this_refused a_this_box a_this_row a_this_text a_this_numbers a_this_before v_states v_empty v_cut v_rowMany v_taken v_found v_textLong v_at v_stopped v_row v_box) → va_S A s.heap H locs → lv_has ls 5 [(0, .ref a_this), (1, .int x1), (2, .int x2), (3, .int x3), (4, .int x4)] → W p l e rm_X8_puts s m args below meth c H locs 0 0 (MQ below (g_QV D (g_tys cI cM) A (ww_X8_puts cI cM a_this a_this_all a_this_past a_this_refused a_this_box a_this_row a_this_text a_this_numbers a_this_before v_states v_empty v_cut o_rowMany v_taken v_found v_textLong v_at v_stopped o_row v_box)) args s 0 0 A) (F0 m 3 ls []) := by
  intro n
  induction n with
  | zero =>
    intro v_rowMany v_row x1 x2 x3 x4 H locs ls hf
    exact absurd hf (fun h => nomatch h)
  | succ n ih =>
    intro v_rowMany v_row x1 x2 x3 x4 H locs ls hf
    exact w_X8_puts_C3 C0 hA hK _ ih v_rowMany v_row x1 x2 x3 x4 H locs ls hf
def f_X8_puts (N : Nat) (v_box : Nat → Int32) (v_rowMany : Int32) (v_row : Nat → Int32) (x1 : Int32) (x2 : Int32) (x3 : Int32) : Option (Int32 × (Nat → Int32)) :=
  f_X8_puts_L3 N v_box N v_rowMany v_row x1 x2 x3 0
set_option maxHeartbeats 4000000 in
set_option maxRecDepth 100000 in
theorem w_X8_puts_B0 {p : Program} {l : Launch} {e : Env} {s : State} {m : MethodId} {args : Array Value} {below : List Frame} {meth : Method} {c : Code} {D : va_G} {cI cM : ClassId} {A : Nat → Prop} {a_this a_this_all a_this_past a_this_refused a_this_box a_this_row a_this_text a_this_numbers a_this_before : Nat} {v_states : Int32} {v_empty : Int32} {v_cut : Int32} {v_taken : Int32} {v_found : Int32} {v_textLong : Int32} {v_at : Int32} {v_stopped : Int32} {N : Nat} {v_box : Nat → Int32} {o_rowMany : Int32} {o_row : Nat → Int32} (C0 : g_cx cX8_puts none 5 RX8 wsX8_puts p s m args meth c) (hA : ∀ q, s.heap.size ≤ q → A q) (hK : va_K D vwCl (g_tys cI cM) s) : ∀ (v_rowMany : Int32) (v_row : Nat → Int32) (x1 : Int32) (x2 : Int32) (x3 : Int32) (H : Heap) (locs : List Loc) (ls : Array Slot), f_X8_puts N v_box v_rowMany v_row x1 x2 x3 = some (o_rowMany, o_row) → va_P D vwCl (ww_X8_puts cI cM a_this a_this_all a_this_past a_this_refused a_this_box a_this_row a_this_text a_this_numbers a_this_before v_states v_empty v_cut v_rowMany v_taken v_found v_textLong v_at v_stopped v_row v_box) H → va_D A (ww_X8_puts cI cM a_this a_this_all a_this_past a_this_refused a_this_box a_this_row a_this_text a_this_numbers a_this_before v_states v_empty v_cut v_rowMany v_taken v_found v_textLong v_at v_stopped v_row v_box) → va_S A s.heap H locs → lv_has ls 5 [(0, .ref a_this), (1, .int x1), (2, .int x2), (3, .int x3)] → W p l e rm_X8_puts s m args below meth c H locs 0 0 (MQ below (g_QV D (g_tys cI cM) A (ww_X8_puts cI cM a_this a_this_all a_this_past a_this_refused a_this_box a_this_row a_this_text a_this_numbers a_this_before v_states v_empty v_cut o_rowMany v_taken v_found v_textLong v_at v_stopped o_row v_box)) args s 0 0 A) (F0 m 0 ls []) := by
  obtain ⟨hx, hb, hr, hml, hown, hts, hlocks⟩ := id C0
  intro v_rowMany v_row x1 x2 x3 H locs ls hf hP hD hS hl
  unfold f_X8_puts at hf
  refine lv_iconst (v := 0) hx hb dX8_puts_0 (by decide) ?_
  refine lv_istore (lv' := [(4, .int 0), (0, .ref a_this), (1, .int x1), (2, .int x2), (3, .int x3)]) hx hb dX8_puts_1 hl (by decide) rfl (fun ls hl => ?_)
  exact w_X8_puts_L3 C0 hA hK N v_rowMany v_row x1 x2 x3 0 H locs ls hf hP hD hS (lv_sub hl [1, 2, 3, 4, 0] rfl)
set_option maxHeartbeats 4000000 in
set_option maxRecDepth 100000 in
theorem c_X8_puts (l : Launch) (D : va_G) (cI cM : ClassId) (a_this a_this_all a_this_past a_this_refused a_this_box a_this_row a_this_text a_this_numbers a_this_before : Nat) (sz : Nat) (v_states : Int32) (v_empty : Int32) (v_cut : Int32) (v_rowMany : Int32) (v_taken : Int32) (v_found : Int32) (v_textLong : Int32) (v_at : Int32) (v_stopped : Int32) (v_row : Nat → Int32) (v_box : Nat → Int32) {N : Nat} {x1 : Int32} {x2 : Int32} {x3 : Int32} {o_rowMany : Int32} {o_row : Nat → Int32} (hf : f_X8_puts N v_box v_rowMany v_row x1 x2 x3 = some (o_rowMany, o_row)) : Met l yX8_puts wsX8_puts rm_X8_puts (g_Pc D (g_tys cI cM) (ww_X8_puts cI cM a_this a_this_all a_this_past a_this_refused a_this_box a_this_row a_this_text a_this_numbers a_this_before v_states v_empty v_cut v_rowMany v_taken v_found v_textLong v_at v_stopped v_row v_box) sz [.ref a_this, .int x1, .int x2, .int x3]) (g_QV D (g_tys cI cM) (va_A (ww_X8_puts cI cM a_this a_this_all a_this_past a_this_refused a_this_box a_this_row a_this_text a_this_numbers a_this_before v_states v_empty v_cut v_rowMany v_taken v_found v_textLong v_at v_stopped v_row v_box) sz) (ww_X8_puts cI cM a_this a_this_all a_this_past a_this_refused a_this_box a_this_row a_this_text a_this_numbers a_this_before v_states v_empty v_cut o_rowMany v_taken v_found v_textLong v_at v_stopped o_row v_box)) 0 0 (va_A (ww_X8_puts cI cM a_this a_this_all a_this_past a_this_refused a_this_box a_this_row a_this_text a_this_numbers a_this_before v_states v_empty v_cut v_rowMany v_taken v_found v_textLong v_at v_stopped v_row v_box) sz) := by
  refine g_met (cc := cX8_puts) (maxL := 5) (ret := none) (Qc := fun D A => g_QV D (g_tys cI cM) A (ww_X8_puts cI cM a_this a_this_all a_this_past a_this_refused a_this_box a_this_row a_this_text a_this_numbers a_this_before v_states v_empty v_cut o_rowMany v_taken v_found v_textLong v_at v_stopped o_row v_box)) (by decide) rfl ?_
  intro p e s m below meth c A C0 hA hK hP hD
  have hl := lv_entry ([.ref a_this, .int x1, .int x2, .int x3]) (n := 5) (Nat.le_of_ble_eq_true rfl)
  rw [lg_entry_eq]
  generalize (lg_sl ([.ref a_this, .int x1, .int x2, .int x3]) ++ List.replicate (5 - (lg_sl ([.ref a_this, .int x1, .int x2, .int x3])).length) Slot.unset).toArray = ls at hl ⊢
  have hl : lv_has ls 5 [(0, .ref a_this), (1, .int x1), (2, .int x2), (3, .int x3)] := hl
  exact w_X8_puts_B0 C0 hA hK v_rowMany v_row x1 x2 x3 s.heap [] ls hf hP hD va_S.rf (lv_sub hl [0, 1, 2, 3] rfl)
/-! FloatBoxesModel.allHold()Z -/
abbrev rm_X8_allHold : Room := { frames := 5, cells := 0, slots := 0, locals := 108 }
abbrev ww_X8_allHold (cI cM : ClassId) (a_this a_this_all a_this_past a_this_refused a_this_box a_this_row a_this_text a_this_numbers a_this_before : Nat) (v_states : Int32) (v_empty : Int32) (v_cut : Int32) (v_rowMany : Int32) (v_taken : Int32) (v_found : Int32) (v_textLong : Int32) (v_at : Int32) (v_stopped : Int32) (v_all : Nat → Int32) (v_box : Nat → Int32) : va_W := [(a_this, .inr (6, [.ref a_this_all, .ref a_this_past, .int v_states, .ref a_this_refused, .ref a_this_box, .int v_empty, .int v_cut, .ref a_this_row, .int v_rowMany, .int v_taken, .int v_found, .ref a_this_text, .int v_textLong, .int v_at, .ref a_this_numbers, .int v_stopped, .ref a_this_before])), (a_this_all, .inl (cI, 38, .inl v_all)), (a_this_box, .inl (cI, 12, .inl v_box))]
def f_X8_allHold_B63 (N : Nat) (v_all : Nat → Int32) (v_box : Nat → Int32) (k4 : Int32 → Int32 → Option (Int32)) (x2 : Int32) (z0 : Int32) : Option (Int32) :=
  k4 z0 (x2 + 1)
set_option maxHeartbeats 4000000 in
set_option maxRecDepth 100000 in
theorem w_X8_allHold_B63 {p : Program} {l : Launch} {e : Env} {s : State} {m : MethodId} {args : Array Value} {below : List Frame} {meth : Method} {c : Code} {D : va_G} {cI cM : ClassId} {A : Nat → Prop} {a_this a_this_all a_this_past a_this_refused a_this_box a_this_row a_this_text a_this_numbers a_this_before : Nat} {v_states : Int32} {v_empty : Int32} {v_cut : Int32} {v_rowMany : Int32} {v_taken : Int32} {v_found : Int32} {v_textLong : Int32} {v_at : Int32} {v_stopped : Int32} {N : Nat} {v_all : Nat → Int32} {v_box : Nat → Int32} {r : Int32} (C0 : g_cx cX8_allHold (some .boolean) 3 RX8 wsX8_allHold p s m args meth c) (hA : ∀ q, s.heap.size ≤ q → A q) (hK : va_K D vwCl (g_tys cI cM) s) (k4 : Int32 → Int32 → Option (Int32)) (hk4 : ∀ (x1 : Int32) (x2 : Int32) (H : Heap) (locs : List Loc) (ls : Array Slot), k4 x1 x2 = some r → va_P D vwCl (ww_X8_allHold cI cM a_this a_this_all a_this_past a_this_refused a_this_box a_this_row a_this_text a_this_numbers a_this_before v_states v_empty v_cut v_rowMany v_taken v_found v_textLong v_at v_stopped v_all v_box) H → va_D A (ww_X8_allHold cI cM a_this a_this_all a_this_past a_this_refused a_this_box a_this_row a_this_text a_this_numbers a_this_before v_states v_empty v_cut v_rowMany v_taken v_found v_textLong v_at v_stopped v_all v_box) → va_S A s.heap H locs → lv_has ls 3 [(0, .ref a_this), (1, .int x1), (2, .int x2)] → W p l e rm_X8_allHold s m args below meth c H locs 0 0 (MQ below (g_QI D (g_tys cI cM) A (ww_X8_allHold cI cM a_this a_this_all a_this_past a_this_refused a_this_box a_this_row a_this_text a_this_numbers a_this_before v_states v_empty v_cut v_rowMany v_taken v_found v_textLong v_at v_stopped v_all v_box) r) args s 0 0 A) (F0 m 4 ls [])) : ∀ (x2 : Int32) (z0 : Int32) (H : Heap) (locs : List Loc) (ls : Array Slot), f_X8_allHold_B63 N v_all v_box k4 x2 z0 = some r → va_P D vwCl (ww_X8_allHold cI cM a_this a_this_all a_this_past a_this_refused a_this_box a_this_row a_this_text a_this_numbers a_this_before v_states v_empty v_cut v_rowMany v_taken v_found v_textLong v_at v_stopped v_all v_box) H → va_D A (ww_X8_allHold cI cM a_this a_this_all a_this_past a_this_refused a_this_box a_this_row a_this_text a_this_numbers a_this_before v_states v_empty v_cut v_rowMany v_taken v_found v_textLong v_at v_stopped v_all v_box) → va_S A s.heap H locs → lv_has ls 3 [(0, .ref a_this), (2, .int x2)] → W p l e rm_X8_allHold s m args below meth c H locs 0 0 (MQ below (g_QI D (g_tys cI cM) A (ww_X8_allHold cI cM a_this a_this_all a_this_past a_this_refused a_this_box a_this_row a_this_text a_this_numbers a_this_before v_states v_empty v_cut v_rowMany v_taken v_found v_textLong v_at v_stopped v_all v_box) r) args s 0 0 A) (F0 m 63 ls [.int z0]) := by
  obtain ⟨hx, hb, hr, hml, hown, hts, hlocks⟩ := id C0
  intro x2 z0 H locs ls hf hP hD hS hl
  unfold f_X8_allHold_B63 at hf
  refine lv_istore_n (lv' := [(1, .int z0), (0, .ref a_this), (2, .int x2)]) hx hb dX8_allHold_63 rfl hl (by decide) rfl (fun ls hl => ?_)
  refine lv_iinc (v := x2 + 1) (lv' := [(2, .int (x2 + 1)), (1, .int z0), (0, .ref a_this)]) hx hb dX8_allHold_64 hl (k := 2) rfl rfl (by decide) rfl (fun ls hl => ?_)
  refine lv_goto (tgt := 4) hx hb dX8_allHold_67 (by decide) ?_
  exact hk4 z0 (x2 + 1) H locs ls hf hP hD hS (lv_sub hl [2, 1, 0] rfl)
def f_X8_allHold_B62 (N : Nat) (v_all : Nat → Int32) (v_box : Nat → Int32) (k4 : Int32 → Int32 → Option (Int32)) (x2 : Int32) : Option (Int32) :=
  f_X8_allHold_B63 N v_all v_box k4 x2 0
set_option maxHeartbeats 4000000 in
set_option maxRecDepth 100000 in
theorem w_X8_allHold_B62 {p : Program} {l : Launch} {e : Env} {s : State} {m : MethodId} {args : Array Value} {below : List Frame} {meth : Method} {c : Code} {D : va_G} {cI cM : ClassId} {A : Nat → Prop} {a_this a_this_all a_this_past a_this_refused a_this_box a_this_row a_this_text a_this_numbers a_this_before : Nat} {v_states : Int32} {v_empty : Int32} {v_cut : Int32} {v_rowMany : Int32} {v_taken : Int32} {v_found : Int32} {v_textLong : Int32} {v_at : Int32} {v_stopped : Int32} {N : Nat} {v_all : Nat → Int32} {v_box : Nat → Int32} {r : Int32} (C0 : g_cx cX8_allHold (some .boolean) 3 RX8 wsX8_allHold p s m args meth c) (hA : ∀ q, s.heap.size ≤ q → A q) (hK : va_K D vwCl (g_tys cI cM) s) (k4 : Int32 → Int32 → Option (Int32)) (hk4 : ∀ (x1 : Int32) (x2 : Int32) (H : Heap) (locs : List Loc) (ls : Array Slot), k4 x1 x2 = some r → va_P D vwCl (ww_X8_allHold cI cM a_this a_this_all a_this_past a_this_refused a_this_box a_this_row a_this_text a_this_numbers a_this_before v_states v_empty v_cut v_rowMany v_taken v_found v_textLong v_at v_stopped v_all v_box) H → va_D A (ww_X8_allHold cI cM a_this a_this_all a_this_past a_this_refused a_this_box a_this_row a_this_text a_this_numbers a_this_before v_states v_empty v_cut v_rowMany v_taken v_found v_textLong v_at v_stopped v_all v_box) → va_S A s.heap H locs → lv_has ls 3 [(0, .ref a_this), (1, .int x1), (2, .int x2)] → W p l e rm_X8_allHold s m args below meth c H locs 0 0 (MQ below (g_QI D (g_tys cI cM) A (ww_X8_allHold cI cM a_this a_this_all a_this_past a_this_refused a_this_box a_this_row a_this_text a_this_numbers a_this_before v_states v_empty v_cut v_rowMany v_taken v_found v_textLong v_at v_stopped v_all v_box) r) args s 0 0 A) (F0 m 4 ls [])) : ∀ (x2 : Int32) (H : Heap) (locs : List Loc) (ls : Array Slot), f_X8_allHold_B62 N v_all v_box k4 x2 = some r → va_P D vwCl (ww_X8_allHold cI cM a_this a_this_all a_this_past a_this_refused a_this_box a_this_row a_this_text a_this_numbers a_this_before v_states v_empty v_cut v_rowMany v_taken v_found v_textLong v_at v_stopped v_all v_box) H → va_D A (ww_X8_allHold cI cM a_this a_this_all a_this_past a_this_refused a_this_box a_this_row a_this_text a_this_numbers a_this_before v_states v_empty v_cut v_rowMany v_taken v_found v_textLong v_at v_stopped v_all v_box) → va_S A s.heap H locs → lv_has ls 3 [(0, .ref a_this), (2, .int x2)] → W p l e rm_X8_allHold s m args below meth c H locs 0 0 (MQ below (g_QI D (g_tys cI cM) A (ww_X8_allHold cI cM a_this a_this_all a_this_past a_this_refused a_this_box a_this_row a_this_text a_this_numbers a_this_before v_states v_empty v_cut v_rowMany v_taken v_found v_textLong v_at v_stopped v_all v_box) r) args s 0 0 A) (F0 m 62 ls []) := by
  obtain ⟨hx, hb, hr, hml, hown, hts, hlocks⟩ := id C0
  intro x2 H locs ls hf hP hD hS hl
  unfold f_X8_allHold_B62 at hf
  refine lv_iconst (v := 0) hx hb dX8_allHold_62 (by decide) ?_
  exact w_X8_allHold_B63 C0 hA hK k4 hk4 x2 0 H locs ls hf hP hD hS (lv_sub hl [0, 1] rfl)
def f_X8_allHold_C4 (N : Nat) (v_all : Nat → Int32) (v_box : Nat → Int32) (k4 : Int32 → Int32 → Option (Int32)) (x1 : Int32) (x2 : Int32) : Option (Int32) :=
  o_b1 (f_X8_rules v_all) (fun (r6 : Int32) =>
  if r6 ≤ x2 then
    o_ck (o_zb x1) (some x1)
  else
    if x1 = 0 then
      f_X8_allHold_B62 N v_all v_box k4 x2
    else
      o_b1 (f_X8_ruleAt v_all x2 0) (fun (r19 : Int32) =>
      o_b1 (f_X8_ruleAt v_all x2 1) (fun (r26 : Int32) =>
      o_b1 (f_X8_low v_box r26) (fun (r29 : Int32) =>
      o_b1 (f_X8_ruleAt v_all x2 2) (fun (r36 : Int32) =>
      o_b1 (f_X8_low v_box r36) (fun (r39 : Int32) =>
      o_b1 (f_X8_ruleAt v_all x2 3) (fun (r46 : Int32) =>
      o_b1 (f_X8_low v_box r46) (fun (r49 : Int32) =>
      o_b1 (f_X8_holds r19 r29 r39 r49) (fun (r52 : Int32) =>
      if r52 = 0 then
        f_X8_allHold_B62 N v_all v_box k4 x2
      else
        f_X8_allHold_B63 N v_all v_box k4 x2 1)))))))))
def f_X8_allHold_L4 (N : Nat) (v_all : Nat → Int32) (v_box : Nat → Int32) : Nat → Int32 → Int32 → Option (Int32)
  | 0 => fun _ _ => none
  | n + 1 => f_X8_allHold_C4 N v_all v_box (f_X8_allHold_L4 N v_all v_box n)
set_option maxHeartbeats 4000000 in
set_option maxRecDepth 100000 in
theorem w_X8_allHold_C4 {p : Program} {l : Launch} {e : Env} {s : State} {m : MethodId} {args : Array Value} {below : List Frame} {meth : Method} {c : Code} {D : va_G} {cI cM : ClassId} {A : Nat → Prop} {a_this a_this_all a_this_past a_this_refused a_this_box a_this_row a_this_text a_this_numbers a_this_before : Nat} {v_states : Int32} {v_empty : Int32} {v_cut : Int32} {v_rowMany : Int32} {v_taken : Int32} {v_found : Int32} {v_textLong : Int32} {v_at : Int32} {v_stopped : Int32} {N : Nat} {v_all : Nat → Int32} {v_box : Nat → Int32} {r : Int32} (C0 : g_cx cX8_allHold (some .boolean) 3 RX8 wsX8_allHold p s m args meth c) (hA : ∀ q, s.heap.size ≤ q → A q) (hK : va_K D vwCl (g_tys cI cM) s) (k4 : Int32 → Int32 → Option (Int32)) (hk4 : ∀ (x1 : Int32) (x2 : Int32) (H : Heap) (locs : List Loc) (ls : Array Slot), k4 x1 x2 = some r → va_P D vwCl (ww_X8_allHold cI cM a_this a_this_all a_this_past a_this_refused a_this_box a_this_row a_this_text a_this_numbers a_this_before v_states v_empty v_cut v_rowMany v_taken v_found v_textLong v_at v_stopped v_all v_box) H → va_D A (ww_X8_allHold cI cM a_this a_this_all a_this_past a_this_refused a_this_box a_this_row a_this_text a_this_numbers a_this_before v_states v_empty v_cut v_rowMany v_taken v_found v_textLong v_at v_stopped v_all v_box) → va_S A s.heap H locs → lv_has ls 3 [(0, .ref a_this), (1, .int x1), (2, .int x2)] → W p l e rm_X8_allHold s m args below meth c H locs 0 0 (MQ below (g_QI D (g_tys cI cM) A (ww_X8_allHold cI cM a_this a_this_all a_this_past a_this_refused a_this_box a_this_row a_this_text a_this_numbers a_this_before v_states v_empty v_cut v_rowMany v_taken v_found v_textLong v_at v_stopped v_all v_box) r) args s 0 0 A) (F0 m 4 ls [])) : ∀ (x1 : Int32) (x2 : Int32) (H : Heap) (locs : List Loc) (ls : Array Slot), f_X8_allHold_C4 N v_all v_box k4 x1 x2 = some r → va_P D vwCl (ww_X8_allHold cI cM a_this a_this_all a_this_past a_this_refused a_this_box a_this_row a_this_text a_this_numbers a_this_before v_states v_empty v_cut v_rowMany v_taken v_found v_textLong v_at v_stopped v_all v_box) H → va_D A (ww_X8_allHold cI cM a_this a_this_all a_this_past a_this_refused a_this_box a_this_row a_this_text a_this_numbers a_this_before v_states v_empty v_cut v_rowMany v_taken v_found v_textLong v_at v_stopped v_all v_box) → va_S A s.heap H locs → lv_has ls 3 [(0, .ref a_this), (1, .int x1), (2, .int x2)] → W p l e rm_X8_allHold s m args below meth c H locs 0 0 (MQ below (g_QI D (g_tys cI cM) A (ww_X8_allHold cI cM a_this a_this_all a_this_past a_this_refused a_this_box a_this_row a_this_text a_this_numbers a_this_before v_states v_empty v_cut v_rowMany v_taken v_found v_textLong v_at v_stopped v_all v_box) r) args s 0 0 A) (F0 m 4 ls []) := by
  obtain ⟨hx, hb, hr, hml, hown, hts, hlocks⟩ := id C0
  intro x1 x2 H locs ls hf hP hD hS hl
  unfold f_X8_allHold_C4 at hf
  refine lv_iload_n hx hb dX8_allHold_4 rfl (lv_at hl 2 rfl) ?_
  refine lv_aload_n hx hb dX8_allHold_5 rfl (lv_at hl 0 rfl) ?_
  obtain ⟨r6, hg6, hf⟩ := o_b1_go hf
  refine g_callVi (wn := (ww_X8_allHold cI cM a_this a_this_all a_this_past a_this_refused a_this_box a_this_row a_this_text a_this_numbers a_this_before v_states v_empty v_cut v_rowMany v_taken v_found v_textLong v_at v_stopped v_all v_box)) (rest := [.int x2]) ⟨hx, hb, hml, hown, hts⟩ (c_X8_rules l D cI cM a_this a_this_all a_this_past a_this_refused a_this_box a_this_row a_this_text a_this_numbers a_this_before H.size v_states v_empty v_cut v_rowMany v_taken v_found v_textLong v_at v_stopped v_all hg6) (cwV 0 hts gX8_allHold_X8_rules rfl rfl rfl (by decide +kernel) ⟨Nat.le_of_ble_eq_true rfl, Nat.le_of_ble_eq_true rfl⟩) hK hP hD hS hA [0, 1] [2] [1, 2, 0] rfl rfl rfl rfl rfl rfl (by decide) rfl rfl rfl hl.1 rfl (Nat.le_of_ble_eq_true rfl) dX8_allHold_6 (fun H locs hP hD hS => ?_)
  refine lv_icmp_ge (tgt := 70) hx hb dX8_allHold_9 (by decide) (fun c9 => ?_) (fun c9 => ?_)
  · replace hf := o_t c9 hf
    refine lv_iload_n hx hb dX8_allHold_70 rfl (lv_at hl 1 rfl) ?_
    obtain ⟨hz71, hf⟩ := o_ck_go hf
    have q0 := Option.some.inj hf
    subst q0
    exact g_zret hx hb hr hlocks hz71 hP hD hK hS dX8_allHold_71
  · replace hf := o_f c9 hf
    refine lv_iload_n hx hb dX8_allHold_12 rfl (lv_at hl 1 rfl) ?_
    refine lv_if_eq (tgt := 62) hx hb dX8_allHold_13 (by decide) (fun c13 => ?_) (fun c13 => ?_)
    · replace hf := o_t c13 hf
      exact w_X8_allHold_B62 C0 hA hK k4 hk4 x2 H locs ls hf hP hD hS (lv_sub hl [0, 2] rfl)
    · replace hf := o_f c13 hf
      refine lv_aload_n hx hb dX8_allHold_16 rfl (lv_at hl 0 rfl) ?_
      refine lv_iload_n hx hb dX8_allHold_17 rfl (lv_at hl 2 rfl) ?_
      refine lv_iconst (v := 0) hx hb dX8_allHold_18 (by decide) ?_
      obtain ⟨r19, hg19, hf⟩ := o_b1_go hf
      refine g_callVi (wn := (ww_X8_allHold cI cM a_this a_this_all a_this_past a_this_refused a_this_box a_this_row a_this_text a_this_numbers a_this_before v_states v_empty v_cut v_rowMany v_taken v_found v_textLong v_at v_stopped v_all v_box)) (rest := []) ⟨hx, hb, hml, hown, hts⟩ (c_X8_ruleAt l D cI cM a_this a_this_all a_this_past a_this_refused a_this_box a_this_row a_this_text a_this_numbers a_this_before H.size v_states v_empty v_cut v_rowMany v_taken v_found v_textLong v_at v_stopped v_all hg19) (cwV 2 hts gX8_allHold_X8_ruleAt rfl rfl rfl (by decide +kernel) ⟨Nat.le_of_ble_eq_true rfl, Nat.le_of_ble_eq_true rfl⟩) hK hP hD hS hA [0, 1] [2] [1, 2, 0] rfl rfl rfl rfl rfl rfl (by decide) rfl rfl rfl hl.1 rfl (Nat.le_of_ble_eq_true rfl) dX8_allHold_19 (fun H locs hP hD hS => ?_)
      refine lv_aload_n hx hb dX8_allHold_22 rfl (lv_at hl 0 rfl) ?_
      refine lv_aload_n hx hb dX8_allHold_23 rfl (lv_at hl 0 rfl) ?_
      refine lv_iload_n hx hb dX8_allHold_24 rfl (lv_at hl 2 rfl) ?_
      refine lv_iconst (v := 1) hx hb dX8_allHold_25 (by decide) ?_
      obtain ⟨r26, hg26, hf⟩ := o_b1_go hf
      refine g_callVi (wn := (ww_X8_allHold cI cM a_this a_this_all a_this_past a_this_refused a_this_box a_this_row a_this_text a_this_numbers a_this_before v_states v_empty v_cut v_rowMany v_taken v_found v_textLong v_at v_stopped v_all v_box)) (rest := [.ref a_this, .int r19]) ⟨hx, hb, hml, hown, hts⟩ (c_X8_ruleAt l D cI cM a_this a_this_all a_this_past a_this_refused a_this_box a_this_row a_this_text a_this_numbers a_this_before H.size v_states v_empty v_cut v_rowMany v_taken v_found v_textLong v_at v_stopped v_all hg26) (cwV 2 hts gX8_allHold_X8_ruleAt rfl rfl rfl (by decide +kernel) ⟨Nat.le_of_ble_eq_true rfl, Nat.le_of_ble_eq_true rfl⟩) hK hP hD hS hA [0, 1] [2] [1, 2, 0] rfl rfl rfl rfl rfl rfl (by decide) rfl rfl rfl hl.1 rfl (Nat.le_of_ble_eq_true rfl) dX8_allHold_26 (fun H locs hP hD hS => ?_)
      obtain ⟨r29, hg29, hf⟩ := o_b1_go hf
      refine g_callVi (wn := (ww_X8_allHold cI cM a_this a_this_all a_this_past a_this_refused a_this_box a_this_row a_this_text a_this_numbers a_this_before v_states v_empty v_cut v_rowMany v_taken v_found v_textLong v_at v_stopped v_all v_box)) (rest := [.int r19]) ⟨hx, hb, hml, hown, hts⟩ (c_X8_low l D cI cM a_this a_this_all a_this_past a_this_refused a_this_box a_this_row a_this_text a_this_numbers a_this_before H.size v_states v_empty v_cut v_rowMany v_taken v_found v_textLong v_at v_stopped v_box hg29) (cwV 1 hts gX8_allHold_X8_low rfl rfl rfl (by decide +kernel) ⟨Nat.le_of_ble_eq_true rfl, Nat.le_of_ble_eq_true rfl⟩) hK hP hD hS hA [0, 2] [1] [1, 0, 2] rfl rfl rfl rfl rfl rfl (by decide) rfl rfl rfl hl.1 rfl (Nat.le_of_ble_eq_true rfl) dX8_allHold_29 (fun H locs hP hD hS => ?_)
      refine lv_aload_n hx hb dX8_allHold_32 rfl (lv_at hl 0 rfl) ?_
      refine lv_aload_n hx hb dX8_allHold_33 rfl (lv_at hl 0 rfl) ?_
      refine lv_iload_n hx hb dX8_allHold_34 rfl (lv_at hl 2 rfl) ?_
      refine lv_iconst (v := 2) hx hb dX8_allHold_35 (by decide) ?_
      obtain ⟨r36, hg36, hf⟩ := o_b1_go hf
      refine g_callVi (wn := (ww_X8_allHold cI cM a_this a_this_all a_this_past a_this_refused a_this_box a_this_row a_this_text a_this_numbers a_this_before v_states v_empty v_cut v_rowMany v_taken v_found v_textLong v_at v_stopped v_all v_box)) (rest := [.ref a_this, .int r29, .int r19]) ⟨hx, hb, hml, hown, hts⟩ (c_X8_ruleAt l D cI cM a_this a_this_all a_this_past a_this_refused a_this_box a_this_row a_this_text a_this_numbers a_this_before H.size v_states v_empty v_cut v_rowMany v_taken v_found v_textLong v_at v_stopped v_all hg36) (cwV 2 hts gX8_allHold_X8_ruleAt rfl rfl rfl (by decide +kernel) ⟨Nat.le_of_ble_eq_true rfl, Nat.le_of_ble_eq_true rfl⟩) hK hP hD hS hA [0, 1] [2] [1, 2, 0] rfl rfl rfl rfl rfl rfl (by decide) rfl rfl rfl hl.1 rfl (Nat.le_of_ble_eq_true rfl) dX8_allHold_36 (fun H locs hP hD hS => ?_)
      obtain ⟨r39, hg39, hf⟩ := o_b1_go hf
      refine g_callVi (wn := (ww_X8_allHold cI cM a_this a_this_all a_this_past a_this_refused a_this_box a_this_row a_this_text a_this_numbers a_this_before v_states v_empty v_cut v_rowMany v_taken v_found v_textLong v_at v_stopped v_all v_box)) (rest := [.int r29, .int r19]) ⟨hx, hb, hml, hown, hts⟩ (c_X8_low l D cI cM a_this a_this_all a_this_past a_this_refused a_this_box a_this_row a_this_text a_this_numbers a_this_before H.size v_states v_empty v_cut v_rowMany v_taken v_found v_textLong v_at v_stopped v_box hg39) (cwV 1 hts gX8_allHold_X8_low rfl rfl rfl (by decide +kernel) ⟨Nat.le_of_ble_eq_true rfl, Nat.le_of_ble_eq_true rfl⟩) hK hP hD hS hA [0, 2] [1] [1, 0, 2] rfl rfl rfl rfl rfl rfl (by decide) rfl rfl rfl hl.1 rfl (Nat.le_of_ble_eq_true rfl) dX8_allHold_39 (fun H locs hP hD hS => ?_)
      refine lv_aload_n hx hb dX8_allHold_42 rfl (lv_at hl 0 rfl) ?_
      refine lv_aload_n hx hb dX8_allHold_43 rfl (lv_at hl 0 rfl) ?_
      refine lv_iload_n hx hb dX8_allHold_44 rfl (lv_at hl 2 rfl) ?_
      refine lv_iconst (v := 3) hx hb dX8_allHold_45 (by decide) ?_
      obtain ⟨r46, hg46, hf⟩ := o_b1_go hf
      refine g_callVi (wn := (ww_X8_allHold cI cM a_this a_this_all a_this_past a_this_refused a_this_box a_this_row a_this_text a_this_numbers a_this_before v_states v_empty v_cut v_rowMany v_taken v_found v_textLong v_at v_stopped v_all v_box)) (rest := [.ref a_this, .int r39, .int r29, .int r19]) ⟨hx, hb, hml, hown, hts⟩ (c_X8_ruleAt l D cI cM a_this a_this_all a_this_past a_this_refused a_this_box a_this_row a_this_text a_this_numbers a_this_before H.size v_states v_empty v_cut v_rowMany v_taken v_found v_textLong v_at v_stopped v_all hg46) (cwV 2 hts gX8_allHold_X8_ruleAt rfl rfl rfl (by decide +kernel) ⟨Nat.le_of_ble_eq_true rfl, Nat.le_of_ble_eq_true rfl⟩) hK hP hD hS hA [0, 1] [2] [1, 2, 0] rfl rfl rfl rfl rfl rfl (by decide) rfl rfl rfl hl.1 rfl (Nat.le_of_ble_eq_true rfl) dX8_allHold_46 (fun H locs hP hD hS => ?_)
      obtain ⟨r49, hg49, hf⟩ := o_b1_go hf
      refine g_callVi (wn := (ww_X8_allHold cI cM a_this a_this_all a_this_past a_this_refused a_this_box a_this_row a_this_text a_this_numbers a_this_before v_states v_empty v_cut v_rowMany v_taken v_found v_textLong v_at v_stopped v_all v_box)) (rest := [.int r39, .int r29, .int r19]) ⟨hx, hb, hml, hown, hts⟩ (c_X8_low l D cI cM a_this a_this_all a_this_past a_this_refused a_this_box a_this_row a_this_text a_this_numbers a_this_before H.size v_states v_empty v_cut v_rowMany v_taken v_found v_textLong v_at v_stopped v_box hg49) (cwV 1 hts gX8_allHold_X8_low rfl rfl rfl (by decide +kernel) ⟨Nat.le_of_ble_eq_true rfl, Nat.le_of_ble_eq_true rfl⟩) hK hP hD hS hA [0, 2] [1] [1, 0, 2] rfl rfl rfl rfl rfl rfl (by decide) rfl rfl rfl hl.1 rfl (Nat.le_of_ble_eq_true rfl) dX8_allHold_49 (fun H locs hP hD hS => ?_)
      obtain ⟨r52, hg52, hf⟩ := o_b1_go hf
      refine g_callSi (rest := []) ⟨hx, hb, hml, hown, hts⟩ (c_X8_holds l hg52) (va_cwS 4 hts gX8_allHold_X8_holds rfl rfl rfl (by decide +kernel) ⟨Nat.le_of_ble_eq_true rfl, Nat.le_of_ble_eq_true rfl⟩) rfl hl.1 rfl (Nat.le_of_ble_eq_true rfl) dX8_allHold_52 ?_
      refine lv_if_eq (tgt := 62) hx hb dX8_allHold_55 (by decide) (fun c55 => ?_) (fun c55 => ?_)
      · replace hf := o_t c55 hf
        exact w_X8_allHold_B62 C0 hA hK k4 hk4 x2 H locs ls hf hP hD hS (lv_sub hl [0, 2] rfl)
      · replace hf := o_f c55 hf
        refine lv_iconst (v := 1) hx hb dX8_allHold_58 (by decide) ?_
        refine lv_goto (tgt := 63) hx hb dX8_allHold_59 (by decide) ?_
        exact w_X8_allHold_B63 C0 hA hK k4 hk4 x2 1 H locs ls hf hP hD hS (lv_sub hl [0, 2] rfl)
set_option maxHeartbeats 4000000 in
set_option maxRecDepth 100000 in
theorem w_X8_allHold_L4 {p : Program} {l : Launch} {e : Env} {s : State} {m : MethodId} {args : Array Value} {below : List Frame} {meth : Method} {c : Code} {D : va_G} {cI cM : ClassId} {A : Nat → Prop} {a_this a_this_all a_this_past a_this_refused a_this_box a_this_row a_this_text a_this_numbers a_this_before : Nat} {v_states : Int32} {v_empty : Int32} {v_cut : Int32} {v_rowMany : Int32} {v_taken : Int32} {v_found : Int32} {v_textLong : Int32} {v_at : Int32} {v_stopped : Int32} {N : Nat} {v_all : Nat → Int32} {v_box : Nat → Int32} {r : Int32} (C0 : g_cx cX8_allHold (some .boolean) 3 RX8 wsX8_allHold p s m args meth c) (hA : ∀ q, s.heap.size ≤ q → A q) (hK : va_K D vwCl (g_tys cI cM) s) : ∀ n : Nat, ∀ (x1 : Int32) (x2 : Int32) (H : Heap) (locs : List Loc) (ls : Array Slot), f_X8_allHold_L4 N v_all v_box n x1 x2 = some r → va_P D vwCl (ww_X8_allHold cI cM a_this a_this_all a_this_past a_this_refused a_this_box a_this_row a_this_text a_this_numbers a_this_before v_states v_empty v_cut v_rowMany v_taken v_found v_textLong v_at v_stopped v_all v_box) H → va_D A (ww_X8_allHold cI cM a_this a_this_all a_this_past a_this_refused a_this_box a_this_row a_this_text a_this_numbers a_this_before v_states v_empty v_cut v_rowMany v_taken v_found v_textLong v_at v_stopped v_all v_box) → va_S A s.heap H locs → lv_has ls 3 [(0, .ref a_this), (1, .int x1), (2, .int x2)] → W p l e rm_X8_allHold s m args below meth c H locs 0 0 (MQ below (g_QI D (g_tys cI cM) A (ww_X8_allHold cI cM a_this a_this_all a_this_past a_this_refused a_this_box a_this_row a_this_text a_this_numbers a_this_before v_states v_empty v_cut v_rowMany v_taken v_found v_textLong v_at v_stopped v_all v_box) r) args s 0 0 A) (F0 m 4 ls []) := by
  intro n
  induction n with
  | zero =>
    intro x1 x2 H locs ls hf
    exact absurd hf (fun h => nomatch h)
  | succ n ih =>
    intro x1 x2 H locs ls hf
    exact w_X8_allHold_C4 C0 hA hK _ ih x1 x2 H locs ls hf
def f_X8_allHold (N : Nat) (v_all : Nat → Int32) (v_box : Nat → Int32) : Option (Int32) :=
  f_X8_allHold_L4 N v_all v_box N 1 0
set_option maxHeartbeats 4000000 in
set_option maxRecDepth 100000 in
theorem w_X8_allHold_B0 {p : Program} {l : Launch} {e : Env} {s : State} {m : MethodId} {args : Array Value} {below : List Frame} {meth : Method} {c : Code} {D : va_G} {cI cM : ClassId} {A : Nat → Prop} {a_this a_this_all a_this_past a_this_refused a_this_box a_this_row a_this_text a_this_numbers a_this_before : Nat} {v_states : Int32} {v_empty : Int32} {v_cut : Int32} {v_rowMany : Int32} {v_taken : Int32} {v_found : Int32} {v_textLong : Int32} {v_at : Int32} {v_stopped : Int32} {N : Nat} {v_all : Nat → Int32} {v_box : Nat → Int32} {r : Int32} (C0 : g_cx cX8_allHold (some .boolean) 3 RX8 wsX8_allHold p s m args meth c) (hA : ∀ q, s.heap.size ≤ q → A q) (hK : va_K D vwCl (g_tys cI cM) s) : ∀ (H : Heap) (locs : List Loc) (ls : Array Slot), f_X8_allHold N v_all v_box = some r → va_P D vwCl (ww_X8_allHold cI cM a_this a_this_all a_this_past a_this_refused a_this_box a_this_row a_this_text a_this_numbers a_this_before v_states v_empty v_cut v_rowMany v_taken v_found v_textLong v_at v_stopped v_all v_box) H → va_D A (ww_X8_allHold cI cM a_this a_this_all a_this_past a_this_refused a_this_box a_this_row a_this_text a_this_numbers a_this_before v_states v_empty v_cut v_rowMany v_taken v_found v_textLong v_at v_stopped v_all v_box) → va_S A s.heap H locs → lv_has ls 3 [(0, .ref a_this)] → W p l e rm_X8_allHold s m args below meth c H locs 0 0 (MQ below (g_QI D (g_tys cI cM) A (ww_X8_allHold cI cM a_this a_this_all a_this_past a_this_refused a_this_box a_this_row a_this_text a_this_numbers a_this_before v_states v_empty v_cut v_rowMany v_taken v_found v_textLong v_at v_stopped v_all v_box) r) args s 0 0 A) (F0 m 0 ls []) := by
  obtain ⟨hx, hb, hr, hml, hown, hts, hlocks⟩ := id C0
  intro H locs ls hf hP hD hS hl
  unfold f_X8_allHold at hf
  refine lv_iconst (v := 1) hx hb dX8_allHold_0 (by decide) ?_
  refine lv_istore_n (lv' := [(1, .int 1), (0, .ref a_this)]) hx hb dX8_allHold_1 rfl hl (by decide) rfl (fun ls hl => ?_)
  refine lv_iconst (v := 0) hx hb dX8_allHold_2 (by decide) ?_
  refine lv_istore_n (lv' := [(2, .int 0), (1, .int 1), (0, .ref a_this)]) hx hb dX8_allHold_3 rfl hl (by decide) rfl (fun ls hl => ?_)
  exact w_X8_allHold_L4 C0 hA hK N 1 0 H locs ls hf hP hD hS (lv_sub hl [2, 1, 0] rfl)
set_option maxHeartbeats 4000000 in
set_option maxRecDepth 100000 in
theorem c_X8_allHold (l : Launch) (D : va_G) (cI cM : ClassId) (a_this a_this_all a_this_past a_this_refused a_this_box a_this_row a_this_text a_this_numbers a_this_before : Nat) (sz : Nat) (v_states : Int32) (v_empty : Int32) (v_cut : Int32) (v_rowMany : Int32) (v_taken : Int32) (v_found : Int32) (v_textLong : Int32) (v_at : Int32) (v_stopped : Int32) (v_all : Nat → Int32) (v_box : Nat → Int32) {N : Nat} {r : Int32} (hf : f_X8_allHold N v_all v_box = some r) : Met l yX8_allHold wsX8_allHold rm_X8_allHold (g_Pc D (g_tys cI cM) (ww_X8_allHold cI cM a_this a_this_all a_this_past a_this_refused a_this_box a_this_row a_this_text a_this_numbers a_this_before v_states v_empty v_cut v_rowMany v_taken v_found v_textLong v_at v_stopped v_all v_box) sz [.ref a_this]) (g_QI D (g_tys cI cM) (va_A (ww_X8_allHold cI cM a_this a_this_all a_this_past a_this_refused a_this_box a_this_row a_this_text a_this_numbers a_this_before v_states v_empty v_cut v_rowMany v_taken v_found v_textLong v_at v_stopped v_all v_box) sz) (ww_X8_allHold cI cM a_this a_this_all a_this_past a_this_refused a_this_box a_this_row a_this_text a_this_numbers a_this_before v_states v_empty v_cut v_rowMany v_taken v_found v_textLong v_at v_stopped v_all v_box) r) 0 0 (va_A (ww_X8_allHold cI cM a_this a_this_all a_this_past a_this_refused a_this_box a_this_row a_this_text a_this_numbers a_this_before v_states v_empty v_cut v_rowMany v_taken v_found v_textLong v_at v_stopped v_all v_box) sz) := by
  refine g_met (cc := cX8_allHold) (maxL := 3) (ret := (some .boolean)) (Qc := fun D A => g_QI D (g_tys cI cM) A (ww_X8_allHold cI cM a_this a_this_all a_this_past a_this_refused a_this_box a_this_row a_this_text a_this_numbers a_this_before v_states v_empty v_cut v_rowMany v_taken v_found v_textLong v_at v_stopped v_all v_box) r) (by decide) rfl ?_
  intro p e s m below meth c A C0 hA hK hP hD
  have hl := lv_entry ([.ref a_this]) (n := 3) (Nat.le_of_ble_eq_true rfl)
  rw [lg_entry_eq]
  generalize (lg_sl ([.ref a_this]) ++ List.replicate (3 - (lg_sl ([.ref a_this])).length) Slot.unset).toArray = ls at hl ⊢
  have hl : lv_has ls 3 [(0, .ref a_this)] := hl
  exact w_X8_allHold_B0 C0 hA hK s.heap [] ls hf hP hD va_S.rf (lv_sub hl [0] rfl)
/-! FloatBoxesModel.widest()I -/
abbrev rm_X8_widest : Room := { frames := 1, cells := 0, slots := 0, locals := 21 }
abbrev ww_X8_widest (cI cM : ClassId) (a_this a_this_all a_this_past a_this_refused a_this_box a_this_row a_this_text a_this_numbers a_this_before : Nat) (v_states : Int32) (v_empty : Int32) (v_cut : Int32) (v_rowMany : Int32) (v_taken : Int32) (v_found : Int32) (v_textLong : Int32) (v_at : Int32) (v_stopped : Int32) (v_all : Nat → Int32) (v_box : Nat → Int32) : va_W := [(a_this, .inr (6, [.ref a_this_all, .ref a_this_past, .int v_states, .ref a_this_refused, .ref a_this_box, .int v_empty, .int v_cut, .ref a_this_row, .int v_rowMany, .int v_taken, .int v_found, .ref a_this_text, .int v_textLong, .int v_at, .ref a_this_numbers, .int v_stopped, .ref a_this_before])), (a_this_all, .inl (cI, 38, .inl v_all)), (a_this_box, .inl (cI, 12, .inl v_box))]
def f_X8_widest_B60 (N : Nat) (v_all : Nat → Int32) (v_box : Nat → Int32) (k7 : Int32 → Int64 → Int32 → Option (Int32)) (x1 : Int32) (x4 : Int32) (z0 : Int64) : Option (Int32) :=
  k7 x1 z0 (x4 + 1)
set_option maxHeartbeats 4000000 in
set_option maxRecDepth 100000 in
theorem w_X8_widest_B60 {p : Program} {l : Launch} {e : Env} {s : State} {m : MethodId} {args : Array Value} {below : List Frame} {meth : Method} {c : Code} {D : va_G} {cI cM : ClassId} {A : Nat → Prop} {a_this a_this_all a_this_past a_this_refused a_this_box a_this_row a_this_text a_this_numbers a_this_before : Nat} {v_states : Int32} {v_empty : Int32} {v_cut : Int32} {v_rowMany : Int32} {v_taken : Int32} {v_found : Int32} {v_textLong : Int32} {v_at : Int32} {v_stopped : Int32} {N : Nat} {v_all : Nat → Int32} {v_box : Nat → Int32} {r : Int32} (C0 : g_cx cX8_widest (some .int) 7 RX8 wsX8_widest p s m args meth c) (hA : ∀ q, s.heap.size ≤ q → A q) (hK : va_K D vwCl (g_tys cI cM) s) (k7 : Int32 → Int64 → Int32 → Option (Int32)) (hk7 : ∀ (x1 : Int32) (x2 : Int64) (x4 : Int32) (H : Heap) (locs : List Loc) (ls : Array Slot), k7 x1 x2 x4 = some r → va_P D vwCl (ww_X8_widest cI cM a_this a_this_all a_this_past a_this_refused a_this_box a_this_row a_this_text a_this_numbers a_this_before v_states v_empty v_cut v_rowMany v_taken v_found v_textLong v_at v_stopped v_all v_box) H → va_D A (ww_X8_widest cI cM a_this a_this_all a_this_past a_this_refused a_this_box a_this_row a_this_text a_this_numbers a_this_before v_states v_empty v_cut v_rowMany v_taken v_found v_textLong v_at v_stopped v_all v_box) → va_S A s.heap H locs → lv_has ls 7 [(0, .ref a_this), (1, .int x1), (2, .long x2), (4, .int x4)] → W p l e rm_X8_widest s m args below meth c H locs 0 0 (MQ below (g_QI D (g_tys cI cM) A (ww_X8_widest cI cM a_this a_this_all a_this_past a_this_refused a_this_box a_this_row a_this_text a_this_numbers a_this_before v_states v_empty v_cut v_rowMany v_taken v_found v_textLong v_at v_stopped v_all v_box) r) args s 0 0 A) (F0 m 7 ls [])) : ∀ (x1 : Int32) (x4 : Int32) (z0 : Int64) (H : Heap) (locs : List Loc) (ls : Array Slot), f_X8_widest_B60 N v_all v_box k7 x1 x4 z0 = some r → va_P D vwCl (ww_X8_widest cI cM a_this a_this_all a_this_past a_this_refused a_this_box a_this_row a_this_text a_this_numbers a_this_before v_states v_empty v_cut v_rowMany v_taken v_found v_textLong v_at v_stopped v_all v_box) H → va_D A (ww_X8_widest cI cM a_this a_this_all a_this_past a_this_refused a_this_box a_this_row a_this_text a_this_numbers a_this_before v_states v_empty v_cut v_rowMany v_taken v_found v_textLong v_at v_stopped v_all v_box) → va_S A s.heap H locs → lv_has ls 7 [(0, .ref a_this), (1, .int x1), (4, .int x4)] → W p l e rm_X8_widest s m args below meth c H locs 0 0 (MQ below (g_QI D (g_tys cI cM) A (ww_X8_widest cI cM a_this a_this_all a_this_past a_this_refused a_this_box a_this_row a_this_text a_this_numbers a_this_before v_states v_empty v_cut v_rowMany v_taken v_found v_textLong v_at v_stopped v_all v_box) r) args s 0 0 A) (F0 m 60 ls [.long z0]) := by
  obtain ⟨hx, hb, hr, hml, hown, hts, hlocks⟩ := id C0
  intro x1 x4 z0 H locs ls hf hP hD hS hl
  unfold f_X8_widest_B60 at hf
  refine lv_lstore_n (lv' := [(2, .long z0), (0, .ref a_this), (1, .int x1), (4, .int x4)]) hx hb dX8_widest_60 rfl hl (by decide) rfl (fun ls hl => ?_)
  refine lv_iinc (v := x4 + 1) (lv' := [(4, .int (x4 + 1)), (2, .long z0), (0, .ref a_this), (1, .int x1)]) hx hb dX8_widest_61 hl (k := 3) rfl rfl (by decide) rfl (fun ls hl => ?_)
  refine lv_goto (tgt := 7) hx hb dX8_widest_64 (by decide) ?_
  exact hk7 x1 z0 (x4 + 1) H locs ls hf hP hD hS (lv_sub hl [2, 3, 1, 0] rfl)
def f_X8_widest_B46 (N : Nat) (v_all : Nat → Int32) (v_box : Nat → Int32) (k7 : Int32 → Int64 → Int32 → Option (Int32)) (x2 : Int64) (x4 : Int32) (x5 : Int64) (z0 : Int32) : Option (Int32) :=
  if (lg_cmp x5 x2) ≤ 0 then
    f_X8_widest_B60 N v_all v_box k7 z0 x4 x2
  else
    f_X8_widest_B60 N v_all v_box k7 z0 x4 x5
set_option maxHeartbeats 4000000 in
set_option maxRecDepth 100000 in
theorem w_X8_widest_B46 {p : Program} {l : Launch} {e : Env} {s : State} {m : MethodId} {args : Array Value} {below : List Frame} {meth : Method} {c : Code} {D : va_G} {cI cM : ClassId} {A : Nat → Prop} {a_this a_this_all a_this_past a_this_refused a_this_box a_this_row a_this_text a_this_numbers a_this_before : Nat} {v_states : Int32} {v_empty : Int32} {v_cut : Int32} {v_rowMany : Int32} {v_taken : Int32} {v_found : Int32} {v_textLong : Int32} {v_at : Int32} {v_stopped : Int32} {N : Nat} {v_all : Nat → Int32} {v_box : Nat → Int32} {r : Int32} (C0 : g_cx cX8_widest (some .int) 7 RX8 wsX8_widest p s m args meth c) (hA : ∀ q, s.heap.size ≤ q → A q) (hK : va_K D vwCl (g_tys cI cM) s) (k7 : Int32 → Int64 → Int32 → Option (Int32)) (hk7 : ∀ (x1 : Int32) (x2 : Int64) (x4 : Int32) (H : Heap) (locs : List Loc) (ls : Array Slot), k7 x1 x2 x4 = some r → va_P D vwCl (ww_X8_widest cI cM a_this a_this_all a_this_past a_this_refused a_this_box a_this_row a_this_text a_this_numbers a_this_before v_states v_empty v_cut v_rowMany v_taken v_found v_textLong v_at v_stopped v_all v_box) H → va_D A (ww_X8_widest cI cM a_this a_this_all a_this_past a_this_refused a_this_box a_this_row a_this_text a_this_numbers a_this_before v_states v_empty v_cut v_rowMany v_taken v_found v_textLong v_at v_stopped v_all v_box) → va_S A s.heap H locs → lv_has ls 7 [(0, .ref a_this), (1, .int x1), (2, .long x2), (4, .int x4)] → W p l e rm_X8_widest s m args below meth c H locs 0 0 (MQ below (g_QI D (g_tys cI cM) A (ww_X8_widest cI cM a_this a_this_all a_this_past a_this_refused a_this_box a_this_row a_this_text a_this_numbers a_this_before v_states v_empty v_cut v_rowMany v_taken v_found v_textLong v_at v_stopped v_all v_box) r) args s 0 0 A) (F0 m 7 ls [])) : ∀ (x2 : Int64) (x4 : Int32) (x5 : Int64) (z0 : Int32) (H : Heap) (locs : List Loc) (ls : Array Slot), f_X8_widest_B46 N v_all v_box k7 x2 x4 x5 z0 = some r → va_P D vwCl (ww_X8_widest cI cM a_this a_this_all a_this_past a_this_refused a_this_box a_this_row a_this_text a_this_numbers a_this_before v_states v_empty v_cut v_rowMany v_taken v_found v_textLong v_at v_stopped v_all v_box) H → va_D A (ww_X8_widest cI cM a_this a_this_all a_this_past a_this_refused a_this_box a_this_row a_this_text a_this_numbers a_this_before v_states v_empty v_cut v_rowMany v_taken v_found v_textLong v_at v_stopped v_all v_box) → va_S A s.heap H locs → lv_has ls 7 [(0, .ref a_this), (2, .long x2), (4, .int x4), (5, .long x5)] → W p l e rm_X8_widest s m args below meth c H locs 0 0 (MQ below (g_QI D (g_tys cI cM) A (ww_X8_widest cI cM a_this a_this_all a_this_past a_this_refused a_this_box a_this_row a_this_text a_this_numbers a_this_before v_states v_empty v_cut v_rowMany v_taken v_found v_textLong v_at v_stopped v_all v_box) r) args s 0 0 A) (F0 m 46 ls [.int z0]) := by
  obtain ⟨hx, hb, hr, hml, hown, hts, hlocks⟩ := id C0
  intro x2 x4 x5 z0 H locs ls hf hP hD hS hl
  unfold f_X8_widest_B46 at hf
  refine lv_istore_n (lv' := [(1, .int z0), (0, .ref a_this), (2, .long x2), (4, .int x4), (5, .long x5)]) hx hb dX8_widest_46 rfl hl (by decide) rfl (fun ls hl => ?_)
  refine lv_lload hx hb dX8_widest_47 (lv_at hl 4 rfl) ?_
  refine lv_lload_n hx hb dX8_widest_49 rfl (lv_at hl 2 rfl) ?_
  refine W.lcmp hx hb dX8_widest_50 ?_
  refine lv_if_le (tgt := 59) hx hb dX8_widest_51 (by decide) (fun c51 => ?_) (fun c51 => ?_)
  · replace hf := o_t c51 hf
    refine lv_lload_n hx hb dX8_widest_59 rfl (lv_at hl 2 rfl) ?_
    exact w_X8_widest_B60 C0 hA hK k7 hk7 z0 x4 x2 H locs ls hf hP hD hS (lv_sub hl [1, 0, 3] rfl)
  · replace hf := o_f c51 hf
    refine lv_lload hx hb dX8_widest_54 (lv_at hl 4 rfl) ?_
    refine lv_goto (tgt := 60) hx hb dX8_widest_56 (by decide) ?_
    exact w_X8_widest_B60 C0 hA hK k7 hk7 z0 x4 x5 H locs ls hf hP hD hS (lv_sub hl [1, 0, 3] rfl)
def f_X8_widest_C7 (N : Nat) (v_all : Nat → Int32) (v_box : Nat → Int32) (k7 : Int32 → Int64 → Int32 → Option (Int32)) (x1 : Int32) (x2 : Int64) (x4 : Int32) : Option (Int32) :=
  o_b1 (f_X8_unknowns v_all) (fun (r10 : Int32) =>
  if r10 ≤ x4 then
    some x1
  else
    o_b1 (f_X8_high v_box x4) (fun (r19 : Int32) =>
    o_b1 (f_X8_low v_box x4) (fun (r26 : Int32) =>
    o_nm (r19.toInt64 - r26.toInt64) (fun (t31 : Int64) =>
    if (lg_cmp t31 x2) ≤ 0 then
      f_X8_widest_B46 N v_all v_box k7 x2 x4 t31 x1
    else
      f_X8_widest_B46 N v_all v_box k7 x2 x4 t31 x4))))
def f_X8_widest_L7 (N : Nat) (v_all : Nat → Int32) (v_box : Nat → Int32) : Nat → Int32 → Int64 → Int32 → Option (Int32)
  | 0 => fun _ _ _ => none
  | n + 1 => f_X8_widest_C7 N v_all v_box (f_X8_widest_L7 N v_all v_box n)
set_option maxHeartbeats 4000000 in
set_option maxRecDepth 100000 in
theorem w_X8_widest_C7 {p : Program} {l : Launch} {e : Env} {s : State} {m : MethodId} {args : Array Value} {below : List Frame} {meth : Method} {c : Code} {D : va_G} {cI cM : ClassId} {A : Nat → Prop} {a_this a_this_all a_this_past a_this_refused a_this_box a_this_row a_this_text a_this_numbers a_this_before : Nat} {v_states : Int32} {v_empty : Int32} {v_cut : Int32} {v_rowMany : Int32} {v_taken : Int32} {v_found : Int32} {v_textLong : Int32} {v_at : Int32} {v_stopped : Int32} {N : Nat} {v_all : Nat → Int32} {v_box : Nat → Int32} {r : Int32} (C0 : g_cx cX8_widest (some .int) 7 RX8 wsX8_widest p s m args meth c) (hA : ∀ q, s.heap.size ≤ q → A q) (hK : va_K D vwCl (g_tys cI cM) s) (k7 : Int32 → Int64 → Int32 → Option (Int32)) (hk7 : ∀ (x1 : Int32) (x2 : Int64) (x4 : Int32) (H : Heap) (locs : List Loc) (ls : Array Slot), k7 x1 x2 x4 = some r → va_P D vwCl (ww_X8_widest cI cM a_this a_this_all a_this_past a_this_refused a_this_box a_this_row a_this_text a_this_numbers a_this_before v_states v_empty v_cut v_rowMany v_taken v_found v_textLong v_at v_stopped v_all v_box) H → va_D A (ww_X8_widest cI cM a_this a_this_all a_this_past a_this_refused a_this_box a_this_row a_this_text a_this_numbers a_this_before v_states v_empty v_cut v_rowMany v_taken v_found v_textLong v_at v_stopped v_all v_box) → va_S A s.heap H locs → lv_has ls 7 [(0, .ref a_this), (1, .int x1), (2, .long x2), (4, .int x4)] → W p l e rm_X8_widest s m args below meth c H locs 0 0 (MQ below (g_QI D (g_tys cI cM) A (ww_X8_widest cI cM a_this a_this_all a_this_past a_this_refused a_this_box a_this_row a_this_text a_this_numbers a_this_before v_states v_empty v_cut v_rowMany v_taken v_found v_textLong v_at v_stopped v_all v_box) r) args s 0 0 A) (F0 m 7 ls [])) : ∀ (x1 : Int32) (x2 : Int64) (x4 : Int32) (H : Heap) (locs : List Loc) (ls : Array Slot), f_X8_widest_C7 N v_all v_box k7 x1 x2 x4 = some r → va_P D vwCl (ww_X8_widest cI cM a_this a_this_all a_this_past a_this_refused a_this_box a_this_row a_this_text a_this_numbers a_this_before v_states v_empty v_cut v_rowMany v_taken v_found v_textLong v_at v_stopped v_all v_box) H → va_D A (ww_X8_widest cI cM a_this a_this_all a_this_past a_this_refused a_this_box a_this_row a_this_text a_this_numbers a_this_before v_states v_empty v_cut v_rowMany v_taken v_found v_textLong v_at v_stopped v_all v_box) → va_S A s.heap H locs → lv_has ls 7 [(0, .ref a_this), (1, .int x1), (2, .long x2), (4, .int x4)] → W p l e rm_X8_widest s m args below meth c H locs 0 0 (MQ below (g_QI D (g_tys cI cM) A (ww_X8_widest cI cM a_this a_this_all a_this_past a_this_refused a_this_box a_this_row a_this_text a_this_numbers a_this_before v_states v_empty v_cut v_rowMany v_taken v_found v_textLong v_at v_stopped v_all v_box) r) args s 0 0 A) (F0 m 7 ls []) := by
  obtain ⟨hx, hb, hr, hml, hown, hts, hlocks⟩ := id C0
  intro x1 x2 x4 H locs ls hf hP hD hS hl
  unfold f_X8_widest_C7 at hf
  refine lv_iload hx hb dX8_widest_7 (lv_at hl 3 rfl) ?_
  refine lv_aload_n hx hb dX8_widest_9 rfl (lv_at hl 0 rfl) ?_
  obtain ⟨r10, hg10, hf⟩ := o_b1_go hf
  refine g_callVi (wn := (ww_X8_widest cI cM a_this a_this_all a_this_past a_this_refused a_this_box a_this_row a_this_text a_this_numbers a_this_before v_states v_empty v_cut v_rowMany v_taken v_found v_textLong v_at v_stopped v_all v_box)) (rest := [.int x4]) ⟨hx, hb, hml, hown, hts⟩ (c_X8_unknowns l D cI cM a_this a_this_all a_this_past a_this_refused a_this_box a_this_row a_this_text a_this_numbers a_this_before H.size v_states v_empty v_cut v_rowMany v_taken v_found v_textLong v_at v_stopped v_all hg10) (cwV 0 hts gX8_widest_X8_unknowns rfl rfl rfl (by decide +kernel) ⟨Nat.le_of_ble_eq_true rfl, Nat.le_of_ble_eq_true rfl⟩) hK hP hD hS hA [0, 1] [2] [1, 2, 0] rfl rfl rfl rfl rfl rfl (by decide) rfl rfl rfl hl.1 rfl (Nat.le_of_ble_eq_true rfl) dX8_widest_10 (fun H locs hP hD hS => ?_)
  refine lv_icmp_ge (tgt := 67) hx hb dX8_widest_13 (by decide) (fun c13 => ?_) (fun c13 => ?_)
  · replace hf := o_t c13 hf
    refine lv_iload_n hx hb dX8_widest_67 rfl (lv_at hl 1 rfl) ?_
    have q0 := Option.some.inj hf
    subst q0
    exact g_iret hx hb hr hlocks hP hD hK hS dX8_widest_68
  · replace hf := o_f c13 hf
    refine lv_aload_n hx hb dX8_widest_16 rfl (lv_at hl 0 rfl) ?_
    refine lv_iload hx hb dX8_widest_17 (lv_at hl 3 rfl) ?_
    obtain ⟨r19, hg19, hf⟩ := o_b1_go hf
    refine g_callVi (wn := (ww_X8_widest cI cM a_this a_this_all a_this_past a_this_refused a_this_box a_this_row a_this_text a_this_numbers a_this_before v_states v_empty v_cut v_rowMany v_taken v_found v_textLong v_at v_stopped v_all v_box)) (rest := []) ⟨hx, hb, hml, hown, hts⟩ (c_X8_high l D cI cM a_this a_this_all a_this_past a_this_refused a_this_box a_this_row a_this_text a_this_numbers a_this_before H.size v_states v_empty v_cut v_rowMany v_taken v_found v_textLong v_at v_stopped v_box hg19) (cwV 1 hts gX8_widest_X8_high rfl rfl rfl (by decide +kernel) ⟨Nat.le_of_ble_eq_true rfl, Nat.le_of_ble_eq_true rfl⟩) hK hP hD hS hA [0, 2] [1] [1, 0, 2] rfl rfl rfl rfl rfl rfl (by decide) rfl rfl rfl hl.1 rfl (Nat.le_of_ble_eq_true rfl) dX8_widest_19 (fun H locs hP hD hS => ?_)
    refine lv_i2l hx hb dX8_widest_22 rfl ?_
    refine lv_aload_n hx hb dX8_widest_23 rfl (lv_at hl 0 rfl) ?_
    refine lv_iload hx hb dX8_widest_24 (lv_at hl 3 rfl) ?_
    obtain ⟨r26, hg26, hf⟩ := o_b1_go hf
    refine g_callVi (wn := (ww_X8_widest cI cM a_this a_this_all a_this_past a_this_refused a_this_box a_this_row a_this_text a_this_numbers a_this_before v_states v_empty v_cut v_rowMany v_taken v_found v_textLong v_at v_stopped v_all v_box)) (rest := [.long r19.toInt64]) ⟨hx, hb, hml, hown, hts⟩ (c_X8_low l D cI cM a_this a_this_all a_this_past a_this_refused a_this_box a_this_row a_this_text a_this_numbers a_this_before H.size v_states v_empty v_cut v_rowMany v_taken v_found v_textLong v_at v_stopped v_box hg26) (cwV 1 hts gX8_widest_X8_low rfl rfl rfl (by decide +kernel) ⟨Nat.le_of_ble_eq_true rfl, Nat.le_of_ble_eq_true rfl⟩) hK hP hD hS hA [0, 2] [1] [1, 0, 2] rfl rfl rfl rfl rfl rfl (by decide) rfl rfl rfl hl.1 rfl (Nat.le_of_ble_eq_true rfl) dX8_widest_26 (fun H locs hP hD hS => ?_)
    refine lv_i2l hx hb dX8_widest_29 rfl ?_
    refine lv_lsub hx hb dX8_widest_30 ?_
    refine lv_topl (fun t31 et31 => ?_)
    replace hf := o_nm_go et31 hf
    refine lv_lstore (lv' := [(5, .long t31), (0, .ref a_this), (1, .int x1), (2, .long x2), (4, .int x4)]) hx hb dX8_widest_31 hl (by decide) rfl (fun ls hl => ?_)
    refine lv_lload hx hb dX8_widest_33 (lv_at hl 0 rfl) ?_
    refine lv_lload_n hx hb dX8_widest_35 rfl (lv_at hl 3 rfl) ?_
    refine W.lcmp hx hb dX8_widest_36 ?_
    refine lv_if_le (tgt := 45) hx hb dX8_widest_37 (by decide) (fun c37 => ?_) (fun c37 => ?_)
    · replace hf := o_t c37 hf
      refine lv_iload_n hx hb dX8_widest_45 rfl (lv_at hl 2 rfl) ?_
      exact w_X8_widest_B46 C0 hA hK k7 hk7 x2 x4 t31 x1 H locs ls hf hP hD hS (lv_sub hl [1, 3, 4, 0] rfl)
    · replace hf := o_f c37 hf
      refine lv_iload hx hb dX8_widest_40 (lv_at hl 4 rfl) ?_
      refine lv_goto (tgt := 46) hx hb dX8_widest_42 (by decide) ?_
      exact w_X8_widest_B46 C0 hA hK k7 hk7 x2 x4 t31 x4 H locs ls hf hP hD hS (lv_sub hl [1, 3, 4, 0] rfl)
set_option maxHeartbeats 4000000 in
set_option maxRecDepth 100000 in
theorem w_X8_widest_L7 {p : Program} {l : Launch} {e : Env} {s : State} {m : MethodId} {args : Array Value} {below : List Frame} {meth : Method} {c : Code} {D : va_G} {cI cM : ClassId} {A : Nat → Prop} {a_this a_this_all a_this_past a_this_refused a_this_box a_this_row a_this_text a_this_numbers a_this_before : Nat} {v_states : Int32} {v_empty : Int32} {v_cut : Int32} {v_rowMany : Int32} {v_taken : Int32} {v_found : Int32} {v_textLong : Int32} {v_at : Int32} {v_stopped : Int32} {N : Nat} {v_all : Nat → Int32} {v_box : Nat → Int32} {r : Int32} (C0 : g_cx cX8_widest (some .int) 7 RX8 wsX8_widest p s m args meth c) (hA : ∀ q, s.heap.size ≤ q → A q) (hK : va_K D vwCl (g_tys cI cM) s) : ∀ n : Nat, ∀ (x1 : Int32) (x2 : Int64) (x4 : Int32) (H : Heap) (locs : List Loc) (ls : Array Slot), f_X8_widest_L7 N v_all v_box n x1 x2 x4 = some r → va_P D vwCl (ww_X8_widest cI cM a_this a_this_all a_this_past a_this_refused a_this_box a_this_row a_this_text a_this_numbers a_this_before v_states v_empty v_cut v_rowMany v_taken v_found v_textLong v_at v_stopped v_all v_box) H → va_D A (ww_X8_widest cI cM a_this a_this_all a_this_past a_this_refused a_this_box a_this_row a_this_text a_this_numbers a_this_before v_states v_empty v_cut v_rowMany v_taken v_found v_textLong v_at v_stopped v_all v_box) → va_S A s.heap H locs → lv_has ls 7 [(0, .ref a_this), (1, .int x1), (2, .long x2), (4, .int x4)] → W p l e rm_X8_widest s m args below meth c H locs 0 0 (MQ below (g_QI D (g_tys cI cM) A (ww_X8_widest cI cM a_this a_this_all a_this_past a_this_refused a_this_box a_this_row a_this_text a_this_numbers a_this_before v_states v_empty v_cut v_rowMany v_taken v_found v_textLong v_at v_stopped v_all v_box) r) args s 0 0 A) (F0 m 7 ls []) := by
  intro n
  induction n with
  | zero =>
    intro x1 x2 x4 H locs ls hf
    exact absurd hf (fun h => nomatch h)
  | succ n ih =>
    intro x1 x2 x4 H locs ls hf
    exact w_X8_widest_C7 C0 hA hK _ ih x1 x2 x4 H locs ls hf
def f_X8_widest (N : Nat) (v_all : Nat → Int32) (v_box : Nat → Int32) : Option (Int32) :=
  f_X8_widest_L7 N v_all v_box N ((-1)) 0 0
set_option maxHeartbeats 4000000 in
set_option maxRecDepth 100000 in
theorem w_X8_widest_B0 {p : Program} {l : Launch} {e : Env} {s : State} {m : MethodId} {args : Array Value} {below : List Frame} {meth : Method} {c : Code} {D : va_G} {cI cM : ClassId} {A : Nat → Prop} {a_this a_this_all a_this_past a_this_refused a_this_box a_this_row a_this_text a_this_numbers a_this_before : Nat} {v_states : Int32} {v_empty : Int32} {v_cut : Int32} {v_rowMany : Int32} {v_taken : Int32} {v_found : Int32} {v_textLong : Int32} {v_at : Int32} {v_stopped : Int32} {N : Nat} {v_all : Nat → Int32} {v_box : Nat → Int32} {r : Int32} (C0 : g_cx cX8_widest (some .int) 7 RX8 wsX8_widest p s m args meth c) (hA : ∀ q, s.heap.size ≤ q → A q) (hK : va_K D vwCl (g_tys cI cM) s) : ∀ (H : Heap) (locs : List Loc) (ls : Array Slot), f_X8_widest N v_all v_box = some r → va_P D vwCl (ww_X8_widest cI cM a_this a_this_all a_this_past a_this_refused a_this_box a_this_row a_this_text a_this_numbers a_this_before v_states v_empty v_cut v_rowMany v_taken v_found v_textLong v_at v_stopped v_all v_box) H → va_D A (ww_X8_widest cI cM a_this a_this_all a_this_past a_this_refused a_this_box a_this_row a_this_text a_this_numbers a_this_before v_states v_empty v_cut v_rowMany v_taken v_found v_textLong v_at v_stopped v_all v_box) → va_S A s.heap H locs → lv_has ls 7 [(0, .ref a_this)] → W p l e rm_X8_widest s m args below meth c H locs 0 0 (MQ below (g_QI D (g_tys cI cM) A (ww_X8_widest cI cM a_this a_this_all a_this_past a_this_refused a_this_box a_this_row a_this_text a_this_numbers a_this_before v_states v_empty v_cut v_rowMany v_taken v_found v_textLong v_at v_stopped v_all v_box) r) args s 0 0 A) (F0 m 0 ls []) := by
  obtain ⟨hx, hb, hr, hml, hown, hts, hlocks⟩ := id C0
  intro H locs ls hf hP hD hS hl
  unfold f_X8_widest at hf
  refine lv_iconst (v := (-1)) hx hb dX8_widest_0 (by decide) ?_
  refine lv_istore_n (lv' := [(1, .int ((-1))), (0, .ref a_this)]) hx hb dX8_widest_1 rfl hl (by decide) rfl (fun ls hl => ?_)
  refine lv_lconst (v := 0) hx hb dX8_widest_2 (by decide) ?_
  refine lv_lstore_n (lv' := [(2, .long 0), (1, .int ((-1))), (0, .ref a_this)]) hx hb dX8_widest_3 rfl hl (by decide) rfl (fun ls hl => ?_)
  refine lv_iconst (v := 0) hx hb dX8_widest_4 (by decide) ?_
  refine lv_istore (lv' := [(4, .int 0), (2, .long 0), (1, .int ((-1))), (0, .ref a_this)]) hx hb dX8_widest_5 hl (by decide) rfl (fun ls hl => ?_)
  exact w_X8_widest_L7 C0 hA hK N ((-1)) 0 0 H locs ls hf hP hD hS (lv_sub hl [3, 2, 1, 0] rfl)
set_option maxHeartbeats 4000000 in
set_option maxRecDepth 100000 in
theorem c_X8_widest (l : Launch) (D : va_G) (cI cM : ClassId) (a_this a_this_all a_this_past a_this_refused a_this_box a_this_row a_this_text a_this_numbers a_this_before : Nat) (sz : Nat) (v_states : Int32) (v_empty : Int32) (v_cut : Int32) (v_rowMany : Int32) (v_taken : Int32) (v_found : Int32) (v_textLong : Int32) (v_at : Int32) (v_stopped : Int32) (v_all : Nat → Int32) (v_box : Nat → Int32) {N : Nat} {r : Int32} (hf : f_X8_widest N v_all v_box = some r) : Met l yX8_widest wsX8_widest rm_X8_widest (g_Pc D (g_tys cI cM) (ww_X8_widest cI cM a_this a_this_all a_this_past a_this_refused a_this_box a_this_row a_this_text a_this_numbers a_this_before v_states v_empty v_cut v_rowMany v_taken v_found v_textLong v_at v_stopped v_all v_box) sz [.ref a_this]) (g_QI D (g_tys cI cM) (va_A (ww_X8_widest cI cM a_this a_this_all a_this_past a_this_refused a_this_box a_this_row a_this_text a_this_numbers a_this_before v_states v_empty v_cut v_rowMany v_taken v_found v_textLong v_at v_stopped v_all v_box) sz) (ww_X8_widest cI cM a_this a_this_all a_this_past a_this_refused a_this_box a_this_row a_this_text a_this_numbers a_this_before v_states v_empty v_cut v_rowMany v_taken v_found v_textLong v_at v_stopped v_all v_box) r) 0 0 (va_A (ww_X8_widest cI cM a_this a_this_all a_this_past a_this_refused a_this_box a_this_row a_this_text a_this_numbers a_this_before v_states v_empty v_cut v_rowMany v_taken v_found v_textLong v_at v_stopped v_all v_box) sz) := by
  refine g_met (cc := cX8_widest) (maxL := 7) (ret := (some .int)) (Qc := fun D A => g_QI D (g_tys cI cM) A (ww_X8_widest cI cM a_this a_this_all a_this_past a_this_refused a_this_box a_this_row a_this_text a_this_numbers a_this_before v_states v_empty v_cut v_rowMany v_taken v_found v_textLong v_at v_stopped v_all v_box) r) (by decide) rfl ?_
  intro p e s m below meth c A C0 hA hK hP hD
  have hl := lv_entry ([.ref a_this]) (n := 7) (Nat.le_of_ble_eq_true rfl)
  rw [lg_entry_eq]
  generalize (lg_sl ([.ref a_this]) ++ List.replicate (7 - (lg_sl ([.ref a_this])).length) Slot.unset).toArray = ls at hl ⊢
  have hl : lv_has ls 7 [(0, .ref a_this)] := hl
  exact w_X8_widest_B0 C0 hA hK s.heap [] ls hf hP hD va_S.rf (lv_sub hl [0] rfl)
