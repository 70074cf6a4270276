/-! FloatBoxesModel.clear()I -/
abbrev rm_X8_clear : Room := { frames := 0, cells := 0, slots := 0, locals := 0 }
abbrev ww_X8_clear (cI cM : ClassId) (a_this a_this_all a_this_past a_this_refused a_this_box a_this_row a_this_text a_this_numbers a_this_before : Nat) (v_states : Int32) (v_empty : Int32) (v_cut : Int32) (v_rowMany : Int32) (v_taken : Int32) (v_found : Int32) (v_textLong : Int32) (v_at : Int32) (v_stopped : Int32) : va_W := [(a_this, .inr (6, [.ref a_this_all, .ref a_this_past, .int v_states, .ref a_this_refused, .ref a_this_box, .int v_empty, .int v_cut, .ref a_this_row, .int v_rowMany, .int v_taken, .int v_found, .ref a_this_text, .int v_textLong, .int v_at, .ref a_this_numbers, .int v_stopped, .ref a_this_before]))]
def f_X8_clear  (v_textLong : Int32) : Option (Int32 × Int32) :=
  some (v_textLong, 0)
set_option maxHeartbeats 4000000 in
set_option maxRecDepth 100000 in
theorem w_X8_clear_B0 {p : Program} {l : Launch} {e : Env} {s : State} {m : MethodId} {args : Array Value} {below : List Frame} {meth : Method} {c : Code} {D : va_G} {cI cM : ClassId} {A : Nat → Prop} {a_this a_this_all a_this_past a_this_refused a_this_box a_this_row a_this_text a_this_numbers a_this_before : Nat} {v_states : Int32} {v_empty : Int32} {v_cut : Int32} {v_rowMany : Int32} {v_taken : Int32} {v_found : Int32} {v_at : Int32} {v_stopped : Int32} {r : Int32} {o_textLong : Int32} (C0 : g_cx cX8_clear (some .int) 2 RX8 wsX8_clear p s m args meth c) (hA : ∀ q, s.heap.size ≤ q → A q) (hK : va_K D vwCl (g_tys cI cM) s) : ∀ (v_textLong : Int32) (H : Heap) (locs : List Loc) (ls : Array Slot), f_X8_clear v_textLong = some (r, o_textLong) → va_P D vwCl (ww_X8_clear cI cM a_this a_this_all a_this_past a_this_refused a_this_box a_this_row a_this_text a_this_numbers a_this_before v_states v_empty v_cut v_rowMany v_taken v_found v_textLong v_at v_stopped) H → va_D A (ww_X8_clear cI cM a_this a_this_all a_this_past a_this_refused a_this_box a_this_row a_this_text a_this_numbers a_this_before v_states v_empty v_cut v_rowMany v_taken v_found v_textLong v_at v_stopped) → va_S A s.heap H locs → lv_has ls 2 [(0, .ref a_this)] → W p l e rm_X8_clear s m args below meth c H locs 0 0 (MQ below (g_QI D (g_tys cI cM) A (ww_X8_clear cI cM a_this a_this_all a_this_past a_this_refused a_this_box a_this_row a_this_text a_this_numbers a_this_before v_states v_empty v_cut v_rowMany v_taken v_found o_textLong v_at v_stopped) r) args s 0 0 A) (F0 m 0 ls []) := by
  obtain ⟨hx, hb, hr, hml, hown, hts, hlocks⟩ := id C0
  intro v_textLong H locs ls hf hP hD hS hl
  unfold f_X8_clear at hf
  refine lv_aload_n hx hb dX8_clear_0 rfl (lv_at hl 0 rfl) ?_
  refine va_get (D := D) (ci := 6) (v := .int v_textLong) (C := RX8) (T := TX8) (N := 17) hx hb hts (fun _ h => (List.mem_cons_of_mem _ (List.mem_append_right _ h))) hown hK hP 0 rfl rfl 12 (by decide) (hts (.fieldLink RX8 277 "FloatBoxesModel" "textLong" "I") (List.mem_cons_of_mem _ (List.mem_append_left _ (List.mem_of_getElem? (i := 0) rfl)))) (fun _ h9 => h9) rfl dX8_clear_1 ?_
  refine lv_istore_n (lv' := [(1, .int v_textLong), (0, .ref a_this)]) hx hb dX8_clear_4 rfl hl (by decide) rfl (fun ls hl => ?_)
  refine lv_aload_n hx hb dX8_clear_5 rfl (lv_at hl 1 rfl) ?_
  refine lv_iconst (v := 0) hx hb dX8_clear_6 (by decide) ?_
  refine va_put (D := D) (ci := 6) (v := .int 0) (ty := .int) (C := RX8) (T := TX8) (N := 17) hx hb hts (fun _ h => (List.mem_cons_of_mem _ (List.mem_append_right _ h))) tyX8 tyX8_ok nmX8 hown hK hP hD hS 0 rfl rfl 12 (by decide) (hts (.fieldLink RX8 277 "FloatBoxesModel" "textLong" "I") (List.mem_cons_of_mem _ (List.mem_append_left _ (List.mem_of_getElem? (i := 0) rfl)))) (fun _ h9 => h9) rfl (by decide +kernel) rfl rfl (Nat.le_of_ble_eq_true rfl) dX8_clear_7 (fun H locs hP hD hS => ?_)
  replace hP : va_P D vwCl (ww_X8_clear cI cM a_this a_this_all a_this_past a_this_refused a_this_box a_this_row a_this_text a_this_numbers a_this_before v_states v_empty v_cut v_rowMany v_taken v_found 0 v_at v_stopped) H := hP
  replace hD : va_D A (ww_X8_clear cI cM a_this a_this_all a_this_past a_this_refused a_this_box a_this_row a_this_text a_this_numbers a_this_before v_states v_empty v_cut v_rowMany v_taken v_found 0 v_at v_stopped) := hD
  refine lv_iload_n hx hb dX8_clear_10 rfl (lv_at hl 0 rfl) ?_
  obtain ⟨q0, y0⟩ := o_rp hf
  have q1 := Option.some.inj y0
  subst q0 q1
  exact g_iret hx hb hr hlocks hP hD hK hS dX8_clear_11
set_option maxHeartbeats 4000000 in
set_option maxRecDepth 100000 in
theorem c_X8_clear (l : Launch) (D : va_G) (cI cM : ClassId) (a_this a_this_all a_this_past a_this_refused a_this_box a_this_row a_this_text a_this_numbers a_this_before : Nat) (sz : Nat) (v_states : Int32) (v_empty : Int32) (v_cut : Int32) (v_rowMany : Int32) (v_taken : Int32) (v_found : Int32) (v_textLong : Int32) (v_at : Int32) (v_stopped : Int32) {r : Int32} {o_textLong : Int32} (hf : f_X8_clear v_textLong = some (r, o_textLong)) : Met l yX8_clear wsX8_clear rm_X8_clear (g_Pc D (g_tys cI cM) (ww_X8_clear cI cM a_this a_this_all a_this_past a_this_refused a_this_box a_this_row a_this_text a_this_numbers a_this_before v_states v_empty v_cut v_rowMany v_taken v_found v_textLong v_at v_stopped) sz [.ref a_this]) (g_QI D (g_tys cI cM) (va_A (ww_X8_clear cI cM a_this a_this_all a_this_past a_this_refused a_this_box a_this_row a_this_text a_this_numbers a_this_before v_states v_empty v_cut v_rowMany v_taken v_found v_textLong v_at v_stopped) sz) (ww_X8_clear cI cM a_this a_this_all a_this_past a_this_refused a_this_box a_this_row a_this_text a_this_numbers a_this_before v_states v_empty v_cut v_rowMany v_taken v_found o_textLong v_at v_stopped) r) 0 0 (va_A (ww_X8_clear cI cM a_this a_this_all a_this_past a_this_refused a_this_box a_this_row a_this_text a_this_numbers a_this_before v_states v_empty v_cut v_rowMany v_taken v_found v_textLong v_at v_stopped) sz) := by
  refine g_met (cc := cX8_clear) (maxL := 2) (ret := (some .int)) (Qc := fun D A => g_QI D (g_tys cI cM) A (ww_X8_clear cI cM a_this a_this_all a_this_past a_this_refused a_this_box a_this_row a_this_text a_this_numbers a_this_before v_states v_empty v_cut v_rowMany v_taken v_found o_textLong v_at v_stopped) r) (by decide) rfl ?_
  intro p e s m below meth c A C0 hA hK hP hD
  have hl := lv_entry ([.ref a_this]) (n := 2) (Nat.le_of_ble_eq_true rfl)
  rw [lg_entry_eq]
  generalize (lg_sl ([.ref a_this]) ++ List.replicate (2 - (lg_sl ([.ref a_this])).length) Slot.unset).toArray = ls at hl ⊢
  have hl : lv_has ls 2 [(0, .ref a_this)] := hl
  exact w_X8_clear_B0 C0 hA hK v_textLong s.heap [] ls hf hP hD va_S.rf (lv_sub hl [0] rfl)
/-! FloatBoxesModel.here()I -/
abbrev rm_X8_here : Room := { frames := 0, cells := 0, slots := 0, locals := 0 }
abbrev ww_X8_here (cI cM : ClassId) (a_this a_this_all a_this_past a_this_refused a_this_box a_this_row a_this_text a_this_numbers a_this_before : Nat) (v_states : Int32) (v_empty : Int32) (v_cut : Int32) (v_rowMany : Int32) (v_taken : Int32) (v_found : Int32) (v_textLong : Int32) (v_at : Int32) (v_stopped : Int32) (v_text : Nat → Int32) : va_W := [(a_this, .inr (6, [.ref a_this_all, .ref a_this_past, .int v_states, .ref a_this_refused, .ref a_this_box, .int v_empty, .int v_cut, .ref a_this_row, .int v_rowMany, .int v_taken, .int v_found, .ref a_this_text, .int v_textLong, .int v_at, .ref a_this_numbers, .int v_stopped, .ref a_this_before])), (a_this_text, .inl (cI, 120, .inl v_text))]
def f_X8_here_B38 (N : Nat) (v_textLong : Int32) (v_text : Nat → Int32) (v_at : Int32) : Option (Int32 × Int32) :=
  if v_textLong ≤ v_at then
    some ((-1), v_at)
  else
    o_in v_at 120 (
    some (v_text v_at.toNatClampNeg, v_at))
set_option maxHeartbeats 4000000 in
set_option maxRecDepth 100000 in
theorem w_X8_here_B38 {p : Program} {l : Launch} {e : Env} {s : State} {m : MethodId} {args : Array Value} {below : List Frame} {meth : Method} {c : Code} {D : va_G} {cI cM : ClassId} {A : Nat → Prop} {a_this a_this_all a_this_past a_this_refused a_this_box a_this_row a_this_text a_this_numbers a_this_before : Nat} {v_states : Int32} {v_empty : Int32} {v_cut : Int32} {v_rowMany : Int32} {v_taken : Int32} {v_found : Int32} {v_stopped : Int32} {N : Nat} {v_textLong : Int32} {v_text : Nat → Int32} {r : Int32} {o_at : Int32} (C0 : g_cx cX8_here (some .int) 1 RX8 wsX8_here p s m args meth c) (hA : ∀ q, s.heap.size ≤ q → A q) (hK : va_K D vwCl (g_tys cI cM) s) : ∀ (v_at : Int32) (H : Heap) (locs : List Loc) (ls : Array Slot), f_X8_here_B38 N v_textLong v_text v_at = some (r, o_at) → va_P D vwCl (ww_X8_here cI cM a_this a_this_all a_this_past a_this_refused a_this_box a_this_row a_this_text a_this_numbers a_this_before v_states v_empty v_cut v_rowMany v_taken v_found v_textLong v_at v_stopped v_text) H → va_D A (ww_X8_here cI cM a_this a_this_all a_this_past a_this_refused a_this_box a_this_row a_this_text a_this_numbers a_this_before v_states v_empty v_cut v_rowMany v_taken v_found v_textLong v_at v_stopped v_text) → va_S A s.heap H locs → lv_has ls 1 [(0, .ref a_this)] → W p l e rm_X8_here s m args below meth c H locs 0 0 (MQ below (g_QI D (g_tys cI cM) A (ww_X8_here cI cM a_this a_this_all a_this_past a_this_refused a_this_box a_this_row a_this_text a_this_numbers a_this_before v_states v_empty v_cut v_rowMany v_taken v_found v_textLong o_at v_stopped v_text) r) args s 0 0 A) (F0 m 38 ls []) := by
  obtain ⟨hx, hb, hr, hml, hown, hts, hlocks⟩ := id C0
  intro v_at H locs ls hf hP hD hS hl
  unfold f_X8_here_B38 at hf
  refine lv_aload_n hx hb dX8_here_38 rfl (lv_at hl 0 rfl) ?_
  refine va_get (D := D) (ci := 6) (v := .int v_at) (C := RX8) (T := TX8) (N := 17) hx hb hts (fun _ h => (List.mem_cons_of_mem _ (List.mem_append_right _ h))) hown hK hP 0 rfl rfl 13 (by decide) (hts (.fieldLink RX8 280 "FloatBoxesModel" "at" "I") (List.mem_cons_of_mem _ (List.mem_append_left _ (List.mem_of_getElem? (i := 0) rfl)))) (fun _ h9 => h9) rfl dX8_here_39 ?_
  refine lv_aload_n hx hb dX8_here_42 rfl (lv_at hl 0 rfl) ?_
  refine va_get (D := D) (ci := 6) (v := .int v_textLong) (C := RX8) (T := TX8) (N := 17) hx hb hts (fun _ h => (List.mem_cons_of_mem _ (List.mem_append_right _ h))) hown hK hP 0 rfl rfl 12 (by decide) (hts (.fieldLink RX8 277 "FloatBoxesModel" "textLong" "I") (List.mem_cons_of_mem _ (List.mem_append_left _ (List.mem_of_getElem? (i := 1) rfl)))) (fun _ h9 => h9) rfl dX8_here_43 ?_
  refine lv_icmp_ge (tgt := 61) hx hb dX8_here_46 (by decide) (fun c46 => ?_) (fun c46 => ?_)
  · replace hf := o_t c46 hf
    refine lv_iconst (v := (-1)) hx hb dX8_here_61 (by decide) ?_
    obtain ⟨q0, y0⟩ := o_rp hf
    have q1 := Option.some.inj y0
    subst q0 q1
    exact g_iret hx hb hr hlocks hP hD hK hS dX8_here_62
  · replace hf := o_f c46 hf
    refine lv_aload_n hx hb dX8_here_49 rfl (lv_at hl 0 rfl) ?_
    refine va_get (D := D) (ci := 6) (v := .ref a_this_text) (C := RX8) (T := TX8) (N := 17) hx hb hts (fun _ h => (List.mem_cons_of_mem _ (List.mem_append_right _ h))) hown hK hP 0 rfl rfl 11 (by decide) (hts (.fieldLink RX8 25 "FloatBoxesModel" "text" "[I") (List.mem_cons_of_mem _ (List.mem_append_left _ (List.mem_of_getElem? (i := 2) rfl)))) (fun _ h9 => h9) rfl dX8_here_50 ?_
    refine lv_aload_n hx hb dX8_here_53 rfl (lv_at hl 0 rfl) ?_
    refine va_get (D := D) (ci := 6) (v := .int v_at) (C := RX8) (T := TX8) (N := 17) hx hb hts (fun _ h => (List.mem_cons_of_mem _ (List.mem_append_right _ h))) hown hK hP 0 rfl rfl 13 (by decide) (hts (.fieldLink RX8 280 "FloatBoxesModel" "at" "I") (List.mem_cons_of_mem _ (List.mem_append_left _ (List.mem_of_getElem? (i := 0) rfl)))) (fun _ h9 => h9) rfl dX8_here_54 ?_
    obtain ⟨h57, hf⟩ := o_in_go hf
    refine va_iald hx hb hK hP 1 0 rfl rfl h57 dX8_here_57 ?_
    refine lv_goto (tgt := 62) hx hb dX8_here_58 (by decide) ?_
    obtain ⟨q0, y0⟩ := o_rp hf
    have q1 := Option.some.inj y0
    subst q0 q1
    exact g_iret hx hb hr hlocks hP hD hK hS dX8_here_62
def f_X8_here_C0 (N : Nat) (v_textLong : Int32) (v_text : Nat → Int32) (k0 : Int32 → Option (Int32 × Int32)) (v_at : Int32) : Option (Int32 × Int32) :=
  if v_textLong ≤ v_at then
    f_X8_here_B38 N v_textLong v_text v_at
  else
    o_in v_at 120 (
    if (v_text v_at.toNatClampNeg) = 32 then
      k0 (v_at + 1)
    else
      f_X8_here_B38 N v_textLong v_text v_at)
def f_X8_here_L0 (N : Nat) (v_textLong : Int32) (v_text : Nat → Int32) : Nat → Int32 → Option (Int32 × Int32)
  | 0 => fun _ => none
  | n + 1 => f_X8_here_C0 N v_textLong v_text (f_X8_here_L0 N v_textLong v_text n)
set_option maxHeartbeats 4000000 in
set_option maxRecDepth 100000 in
theorem w_X8_here_C0 {p : Program} {l : Launch} {e : Env} {s : State} {m : MethodId} {args : Array Value} {below : List Frame} {meth : Method} {c : Code} {D : va_G} {cI cM : ClassId} {A : Nat → Prop} {a_this a_this_all a_this_past a_this_refused a_this_box a_this_row a_this_text a_this_numbers a_this_before : Nat} {v_states : Int32} {v_empty : Int32} {v_cut : Int32} {v_rowMany : Int32} {v_taken : Int32} {v_found : Int32} {v_stopped : Int32} {N : Nat} {v_textLong : Int32} {v_text : Nat → Int32} {r : Int32} {o_at : Int32} (C0 : g_cx cX8_here (some .int) 1 RX8 wsX8_here p s m args meth c) (hA : ∀ q, s.heap.size ≤ q → A q) (hK : va_K D vwCl (g_tys cI cM) s) (k0 : Int32 → Option (Int32 × Int32)) (hk0 : ∀ (v_at : Int32) (H : Heap) (locs : List Loc) (ls : Array Slot), k0 v_at = some (r, o_at) → va_P D vwCl (ww_X8_here cI cM a_this a_this_all a_this_past a_this_refused a_this_box a_this_row a_this_text a_this_numbers a_this_before v_states v_empty v_cut v_rowMany v_taken v_found v_textLong v_at v_stopped v_text) H → va_D A (ww_X8_here cI cM a_this a_this_all a_this_past a_this_refused a_this_box a_this_row a_this_text a_this_numbers a_this_before v_states v_empty v_cut v_rowMany v_taken v_found v_textLong v_at v_stopped v_text) → va_S A s.heap H locs → lv_has ls 1 [(0, .ref a_this)] → W p l e rm_X8_here s m args below meth c H locs 0 0 (MQ below (g_QI D (g_tys cI cM) A (ww_X8_here cI cM a_this a_this_all a_this_past a_this_refused a_this_box a_this_row a_this_text a_this_numbers a_this_before v_states v_empty v_cut v_rowMany v_taken v_found v_textLong o_at v_stopped v_text) r) args s 0 0 A) (F0 m 0 ls [])) : ∀ (v_at : Int32) (H : Heap) (locs : List Loc) (ls : Array Slot), f_X8_here_C0 N v_textLong v_text k0 v_at = some (r, o_at) → va_P D vwCl (ww_X8_here cI cM a_this a_this_all a_this_past a_this_refused a_this_box a_this_row a_this_text a_this_numbers a_this_before v_states v_empty v_cut v_rowMany v_taken v_found v_textLong v_at v_stopped v_text) H → va_D A (ww_X8_here cI cM a_this a_this_all a_this_past a_this_refused a_this_box a_this_row a_this_text a_this_numbers a_this_before v_states v_empty v_cut v_rowMany v_taken v_found v_textLong v_at v_stopped v_text) → va_S A s.heap H locs → lv_has ls 1 [(0, .ref a_this)] → W p l e rm_X8_here s m args below meth c H locs 0 0 (MQ below (g_QI D (g_tys cI cM) A (ww_X8_here cI cM a_this a_this_all a_this_past a_this_refused a_this_box a_this_row a_this_text a_this_numbers a_this_before v_states v_empty v_cut v_rowMany v_taken v_found v_textLong o_at v_stopped v_text) r) args s 0 0 A) (F0 m 0 ls []) := by
  obtain ⟨hx, hb, hr, hml, hown, hts, hlocks⟩ := id C0
  intro v_at H locs ls hf hP hD hS hl
  unfold f_X8_here_C0 at hf
  refine lv_aload_n hx hb dX8_here_0 rfl (lv_at hl 0 rfl) ?_
  refine va_get (D := D) (ci := 6) (v := .int v_at) (C := RX8) (T := TX8) (N := 17) hx hb hts (fun _ h => (List.mem_cons_of_mem _ (List.mem_append_right _ h))) hown hK hP 0 rfl rfl 13 (by decide) (hts (.fieldLink RX8 280 "FloatBoxesModel" "at" "I") (List.mem_cons_of_mem _ (List.mem_append_left _ (List.mem_of_getElem? (i := 0) rfl)))) (fun _ h9 => h9) rfl dX8_here_1 ?_
  refine lv_aload_n hx hb dX8_here_4 rfl (lv_at hl 0 rfl) ?_
  refine va_get (D := D) (ci := 6) (v := .int v_textLong) (C := RX8) (T := TX8) (N := 17) hx hb hts (fun _ h => (List.mem_cons_of_mem _ (List.mem_append_right _ h))) hown hK hP 0 rfl rfl 12 (by decide) (hts (.fieldLink RX8 277 "FloatBoxesModel" "textLong" "I") (List.mem_cons_of_mem _ (List.mem_append_left _ (List.mem_of_getElem? (i := 1) rfl)))) (fun _ h9 => h9) rfl dX8_here_5 ?_
  refine lv_icmp_ge (tgt := 38) hx hb dX8_here_8 (by decide) (fun c8 => ?_) (fun c8 => ?_)
  · replace hf := o_t c8 hf
    exact w_X8_here_B38 C0 hA hK v_at H locs ls hf hP hD hS (lv_sub hl [0] rfl)
  · replace hf := o_f c8 hf
    refine lv_aload_n hx hb dX8_here_11 rfl (lv_at hl 0 rfl) ?_
    refine va_get (D := D) (ci := 6) (v := .ref a_this_text) (C := RX8) (T := TX8) (N := 17) hx hb hts (fun _ h => (List.mem_cons_of_mem _ (List.mem_append_right _ h))) hown hK hP 0 rfl rfl 11 (by decide) (hts (.fieldLink RX8 25 "FloatBoxesModel" "text" "[I") (List.mem_cons_of_mem _ (List.mem_append_left _ (List.mem_of_getElem? (i := 2) rfl)))) (fun _ h9 => h9) rfl dX8_here_12 ?_
    refine lv_aload_n hx hb dX8_here_15 rfl (lv_at hl 0 rfl) ?_
    refine va_get (D := D) (ci := 6) (v := .int v_at) (C := RX8) (T := TX8) (N := 17) hx hb hts (fun _ h => (List.mem_cons_of_mem _ (List.mem_append_right _ h))) hown hK hP 0 rfl rfl 13 (by decide) (hts (.fieldLink RX8 280 "FloatBoxesModel" "at" "I") (List.mem_cons_of_mem _ (List.mem_append_left _ (List.mem_of_getElem? (i := 0) rfl)))) (fun _ h9 => h9) rfl dX8_here_16 ?_
    obtain ⟨h19, hf⟩ := o_in_go hf
    refine va_iald hx hb hK hP 1 0 rfl rfl h19 dX8_here_19 ?_
    refine lv_bipush (v := 32) hx hb dX8_here_20 (by decide) ?_
    refine lv_icmp_ne (tgt := 38) hx hb dX8_here_22 (by decide) (fun c22 => ?_) (fun c22 => ?_)
    · replace hf := o_f c22 hf
      exact w_X8_here_B38 C0 hA hK v_at H locs ls hf hP hD hS (lv_sub hl [0] rfl)
    · replace hf := o_t c22 hf
      refine lv_aload_n hx hb dX8_here_25 rfl (lv_at hl 0 rfl) ?_
      refine lv_dup hx hb dX8_here_26 rfl ?_
      refine va_get (D := D) (ci := 6) (v := .int v_at) (C := RX8) (T := TX8) (N := 17) hx hb hts (fun _ h => (List.mem_cons_of_mem _ (List.mem_append_right _ h))) hown hK hP 0 rfl rfl 13 (by decide) (hts (.fieldLink RX8 280 "FloatBoxesModel" "at" "I") (List.mem_cons_of_mem _ (List.mem_append_left _ (List.mem_of_getElem? (i := 0) rfl)))) (fun _ h9 => h9) rfl dX8_here_27 ?_
      refine lv_iconst (v := 1) hx hb dX8_here_30 (by decide) ?_
      refine lv_iadd hx hb dX8_here_31 ?_
      refine va_put (D := D) (ci := 6) (v := .int (v_at + 1)) (ty := .int) (C := RX8) (T := TX8) (N := 17) hx hb hts (fun _ h => (List.mem_cons_of_mem _ (List.mem_append_right _ h))) tyX8 tyX8_ok nmX8 hown hK hP hD hS 0 rfl rfl 13 (by decide) (hts (.fieldLink RX8 280 "FloatBoxesModel" "at" "I") (List.mem_cons_of_mem _ (List.mem_append_left _ (List.mem_of_getElem? (i := 0) rfl)))) (fun _ h9 => h9) rfl (by decide +kernel) rfl rfl (Nat.le_of_ble_eq_true rfl) dX8_here_32 (fun H locs hP hD hS => ?_)
      replace hP : va_P D vwCl (ww_X8_here cI cM a_this a_this_all a_this_past a_this_refused a_this_box a_this_row a_this_text a_this_numbers a_this_before v_states v_empty v_cut v_rowMany v_taken v_found v_textLong (v_at + 1) v_stopped v_text) H := hP
      replace hD : va_D A (ww_X8_here cI cM a_this a_this_all a_this_past a_this_refused a_this_box a_this_row a_this_text a_this_numbers a_this_before v_states v_empty v_cut v_rowMany v_taken v_found v_textLong (v_at + 1) v_stopped v_text) := hD
      refine lv_goto (tgt := 0) hx hb dX8_here_35 (by decide) ?_
      exact hk0 (v_at + 1) H locs ls hf hP hD hS (lv_sub hl [0] rfl)
set_option maxHeartbeats 4000000 in
set_option maxRecDepth 100000 in
theorem w_X8_here_L0 {p : Program} {l : Launch} {e : Env} {s : State} {m : MethodId} {args : Array Value} {below : List Frame} {meth : Method} {c : Code} {D : va_G} {cI cM : ClassId} {A : Nat → Prop} {a_this a_this_all a_this_past a_this_refused a_this_box a_this_row a_this_text a_this_numbers a_this_before : Nat} {v_states : Int32} {v_empty : Int32} {v_cut : Int32} {v_rowMany : Int32} {v_taken : Int32} {v_found : Int32} {v_stopped : Int32} {N : Nat} {v_textLong : Int32} {v_text : Nat → Int32} {r : Int32} {o_at : Int32} (C0 : g_cx cX8_here (some .int) 1 RX8 wsX8_here p s m args meth c) (hA : ∀ q, s.heap.size ≤ q → A q) (hK : va_K D vwCl (g_tys cI cM) s) : ∀ n : Nat, ∀ (v_at : Int32) (H : Heap) (locs : List Loc) (ls : Array Slot), f_X8_here_L0 N v_textLong v_text n v_at = some (r, o_at) → va_P D vwCl (ww_X8_here cI cM a_this a_this_all a_this_past a_this_refused a_this_box a_this_row a_this_text a_this_numbers a_this_before v_states v_empty v_cut v_rowMany v_taken v_found v_textLong v_at v_stopped v_text) H → va_D A (ww_X8_here cI cM a_this a_this_all a_this_past a_this_refused a_this_box a_this_row a_this_text a_this_numbers a_this_before v_states v_empty v_cut v_rowMany v_taken v_found v_textLong v_at v_stopped v_text) → va_S A s.heap H locs → lv_has ls 1 [(0, .ref a_this)] → W p l e rm_X8_here s m args below meth c H locs 0 0 (MQ below (g_QI D (g_tys cI cM) A (ww_X8_here cI cM a_this a_this_all a_this_past a_this_refused a_this_box a_this_row a_this_text a_this_numbers a_this_before v_states v_empty v_cut v_rowMany v_taken v_found v_textLong o_at v_stopped v_text) r) args s 0 0 A) (F0 m 0 ls []) := by
  intro n
  induction n with
  | zero =>
    intro v_at H locs ls hf
    exact absurd hf (fun h => nomatch h)
  | succ n ih =>
    intro v_at H locs ls hf
    exact w_X8_here_C0 C0 hA hK _ ih v_at H locs ls hf
def f_X8_here (N : Nat) (v_textLong : Int32) (v_text : Nat → Int32) (v_at : Int32) : Option (Int32 × Int32) := f_X8_here_L0 N v_textLong v_text N v_at
set_option maxHeartbeats 4000000 in
set_option maxRecDepth 100000 in
theorem c_X8_here (l : Launch) (D : va_G) (cI cM : ClassId) (a_this a_this_all a_this_past a_this_refused a_this_box a_this_row a_this_text a_this_numbers a_this_before : Nat) (sz : Nat) (v_states : Int32) (v_empty : Int32) (v_cut : Int32) (v_rowMany : Int32) (v_taken : Int32) (v_found : Int32) (v_textLong : Int32) (v_at : Int32) (v_stopped : Int32) (v_text : Nat → Int32) {N : Nat} {r : Int32} {o_at : Int32} (hf : f_X8_here N v_textLong v_text v_at = some (r, o_at)) : Met l yX8_here wsX8_here rm_X8_here (g_Pc D (g_tys cI cM) (ww_X8_here cI cM a_this a_this_all a_this_past a_this_refused a_this_box a_this_row a_this_text a_this_numbers a_this_before v_states v_empty v_cut v_rowMany v_taken v_found v_textLong v_at v_stopped v_text) sz [.ref a_this]) (g_QI D (g_tys cI cM) (va_A (ww_X8_here cI cM a_this a_this_all a_this_past a_this_refused a_this_box a_this_row a_this_text a_this_numbers a_this_before v_states v_empty v_cut v_rowMany v_taken v_found v_textLong v_at v_stopped v_text) sz) (ww_X8_here cI cM a_this a_this_all a_this_past a_this_refused a_this_box a_this_row a_this_text a_this_numbers a_this_before v_states v_empty v_cut v_rowMany v_taken v_found v_textLong o_at v_stopped v_text) r) 0 0 (va_A (ww_X8_here cI cM a_this a_this_all a_this_past a_this_refused a_this_box a_this_row a_this_text a_this_numbers a_this_before v_states v_empty v_cut v_rowMany v_taken v_found v_textLong v_at v_stopped v_text) sz) := by
  refine g_met (cc := cX8_here) (maxL := 1) (ret := (some .int)) (Qc := fun D A => g_QI D (g_tys cI cM) A (ww_X8_here cI cM a_this a_this_all a_this_past a_this_refused a_this_box a_this_row a_this_text a_this_numbers a_this_before v_states v_empty v_cut v_rowMany v_taken v_found v_textLong o_at v_stopped v_text) r) (by decide) rfl ?_
  intro p e s m below meth c A C0 hA hK hP hD
  have hl := lv_entry ([.ref a_this]) (n := 1) (Nat.le_of_ble_eq_true rfl)
  rw [lg_entry_eq]
  generalize (lg_sl ([.ref a_this]) ++ List.replicate (1 - (lg_sl ([.ref a_this])).length) Slot.unset).toArray = ls at hl ⊢
  have hl : lv_has ls 1 [(0, .ref a_this)] := hl
  exact w_X8_here_L0 C0 hA hK N v_at s.heap [] ls hf hP hD va_S.rf (lv_sub hl [0] rfl)
/-! FloatBoxesModel.isFigure()Z -/
abbrev rm_X8_isFigure : Room := { frames := 1, cells := 0, slots := 0, locals := 25 }
abbrev ww_X8_isFigure (cI cM : ClassId) (a_this a_this_all a_this_past a_this_refused a_this_box a_this_row a_this_text a_this_numbers a_this_before : Nat) (v_states : Int32) (v_empty : Int32) (v_cut : Int32) (v_rowMany : Int32) (v_taken : Int32) (v_found : Int32) (v_textLong : Int32) (v_at : Int32) (v_stopped : Int32) (v_text : Nat → Int32) : va_W := [(a_this, .inr (6, [.ref a_this_all, .ref a_this_past, .int v_states, .ref a_this_refused, .ref a_this_box, .int v_empty, .int v_cut, .ref a_this_row, .int v_rowMany, .int v_taken, .int v_found, .ref a_this_text, .int v_textLong, .int v_at, .ref a_this_numbers, .int v_stopped, .ref a_this_before])), (a_this_text, .inl (cI, 120, .inl v_text))]
def f_X8_isFigure (v_textLong : Int32) (v_at : Int32) (v_text : Nat → Int32) : Option (Int32) :=
  if v_textLong ≤ v_at then
    some 0
  else
    o_in v_at 120 (
    o_b1 (f_X8_in ((v_text v_at.toNatClampNeg).toInt64) 48 57) (fun (r27 : Int32) =>
    if r27 = 0 then
      some 0
    else
      some 1))
set_option maxHeartbeats 4000000 in
set_option maxRecDepth 100000 in
theorem w_X8_isFigure_B0 {p : Program} {l : Launch} {e : Env} {s : State} {m : MethodId} {args : Array Value} {below : List Frame} {meth : Method} {c : Code} {D : va_G} {cI cM : ClassId} {A : Nat → Prop} {a_this a_this_all a_this_past a_this_refused a_this_box a_this_row a_this_text a_this_numbers a_this_before : Nat} {v_states : Int32} {v_empty : Int32} {v_cut : Int32} {v_rowMany : Int32} {v_taken : Int32} {v_found : Int32} {v_stopped : Int32} {v_textLong : Int32} {v_at : Int32} {v_text : Nat → Int32} {r : Int32} (C0 : g_cx cX8_isFigure (some .boolean) 1 RX8 wsX8_isFigure p s m args meth c) (hA : ∀ q, s.heap.size ≤ q → A q) (hK : va_K D vwCl (g_tys cI cM) s) : ∀ (H : Heap) (locs : List Loc) (ls : Array Slot), f_X8_isFigure v_textLong v_at v_text = some r → va_P D vwCl (ww_X8_isFigure cI cM a_this a_this_all a_this_past a_this_refused a_this_box a_this_row a_this_text a_this_numbers a_this_before v_states v_empty v_cut v_rowMany v_taken v_found v_textLong v_at v_stopped v_text) H → va_D A (ww_X8_isFigure cI cM a_this a_this_all a_this_past a_this_refused a_this_box a_this_row a_this_text a_this_numbers a_this_before v_states v_empty v_cut v_rowMany v_taken v_found v_textLong v_at v_stopped v_text) → va_S A s.heap H locs → lv_has ls 1 [(0, .ref a_this)] → W p l e rm_X8_isFigure s m args below meth c H locs 0 0 (MQ below (g_QI D (g_tys cI cM) A (ww_X8_isFigure cI cM a_this a_this_all a_this_past a_this_refused a_this_box a_this_row a_this_text a_this_numbers a_this_before v_states v_empty v_cut v_rowMany v_taken v_found v_textLong v_at v_stopped v_text) r) args s 0 0 A) (F0 m 0 ls []) := by
  obtain ⟨hx, hb, hr, hml, hown, hts, hlocks⟩ := id C0
  intro H locs ls hf hP hD hS hl
  unfold f_X8_isFigure at hf
  refine lv_aload_n hx hb dX8_isFigure_0 rfl (lv_at hl 0 rfl) ?_
  refine va_get (D := D) (ci := 6) (v := .int v_at) (C := RX8) (T := TX8) (N := 17) hx hb hts (fun _ h => (List.mem_cons_of_mem _ (List.mem_append_right _ h))) hown hK hP 0 rfl rfl 13 (by decide) (hts (.fieldLink RX8 280 "FloatBoxesModel" "at" "I") (List.mem_cons_of_mem _ (List.mem_append_left _ (List.mem_of_getElem? (i := 0) rfl)))) (fun _ h9 => h9) rfl dX8_isFigure_1 ?_
  refine lv_aload_n hx hb dX8_isFigure_4 rfl (lv_at hl 0 rfl) ?_
  refine va_get (D := D) (ci := 6) (v := .int v_textLong) (C := RX8) (T := TX8) (N := 17) hx hb hts (fun _ h => (List.mem_cons_of_mem _ (List.mem_append_right _ h))) hown hK hP 0 rfl rfl 12 (by decide) (hts (.fieldLink RX8 277 "FloatBoxesModel" "textLong" "I") (List.mem_cons_of_mem _ (List.mem_append_left _ (List.mem_of_getElem? (i := 1) rfl)))) (fun _ h9 => h9) rfl dX8_isFigure_5 ?_
  refine lv_icmp_ge (tgt := 37) hx hb dX8_isFigure_8 (by decide) (fun c8 => ?_) (fun c8 => ?_)
  · replace hf := o_t c8 hf
    refine lv_iconst (v := 0) hx hb dX8_isFigure_37 (by decide) ?_
    have q0 := Option.some.inj hf
    subst q0
    exact g_zret hx hb hr hlocks (by decide) hP hD hK hS dX8_isFigure_38
  · replace hf := o_f c8 hf
    refine lv_aload_n hx hb dX8_isFigure_11 rfl (lv_at hl 0 rfl) ?_
    refine va_get (D := D) (ci := 6) (v := .ref a_this_text) (C := RX8) (T := TX8) (N := 17) hx hb hts (fun _ h => (List.mem_cons_of_mem _ (List.mem_append_right _ h))) hown hK hP 0 rfl rfl 11 (by decide) (hts (.fieldLink RX8 25 "FloatBoxesModel" "text" "[I") (List.mem_cons_of_mem _ (List.mem_append_left _ (List.mem_of_getElem? (i := 2) rfl)))) (fun _ h9 => h9) rfl dX8_isFigure_12 ?_
    refine lv_aload_n hx hb dX8_isFigure_15 rfl (lv_at hl 0 rfl) ?_
    refine va_get (D := D) (ci := 6) (v := .int v_at) (C := RX8) (T := TX8) (N := 17) hx hb hts (fun _ h => (List.mem_cons_of_mem _ (List.mem_append_right _ h))) hown hK hP 0 rfl rfl 13 (by decide) (hts (.fieldLink RX8 280 "FloatBoxesModel" "at" "I") (List.mem_cons_of_mem _ (List.mem_append_left _ (List.mem_of_getElem? (i := 0) rfl)))) (fun _ h9 => h9) rfl dX8_isFigure_16 ?_
    obtain ⟨h19, hf⟩ := o_in_go hf
    refine va_iald hx hb hK hP 1 0 rfl rfl h19 dX8_isFigure_19 ?_
    refine lv_i2l hx hb dX8_isFigure_20 rfl ?_
    refine lv_ldc2 (v := 48) hx hb hown (hts (.constantLong RX8 283 (48)) (List.mem_cons_of_mem _ (List.mem_append_left _ (List.mem_of_getElem? (i := 3) rfl)))) dX8_isFigure_21 ?_
    refine lv_ldc2 (v := 57) hx hb hown (hts (.constantLong RX8 285 (57)) (List.mem_cons_of_mem _ (List.mem_append_left _ (List.mem_of_getElem? (i := 4) rfl)))) dX8_isFigure_24 ?_
    obtain ⟨r27, hg27, hf⟩ := o_b1_go hf
    refine g_callSi (rest := []) ⟨hx, hb, hml, hown, hts⟩ (c_X8_in l hg27) (va_cwS 3 hts gX8_isFigure_X8_in rfl rfl rfl (by decide +kernel) ⟨Nat.le_of_ble_eq_true rfl, Nat.le_of_ble_eq_true rfl⟩) rfl hl.1 rfl (Nat.le_of_ble_eq_true rfl) dX8_isFigure_27 ?_
    refine lv_if_eq (tgt := 37) hx hb dX8_isFigure_30 (by decide) (fun c30 => ?_) (fun c30 => ?_)
    · replace hf := o_t c30 hf
      refine lv_iconst (v := 0) hx hb dX8_isFigure_37 (by decide) ?_
      have q0 := Option.some.inj hf
      subst q0
      exact g_zret hx hb hr hlocks (by decide) hP hD hK hS dX8_isFigure_38
    · replace hf := o_f c30 hf
      refine lv_iconst (v := 1) hx hb dX8_isFigure_33 (by decide) ?_
      refine lv_goto (tgt := 38) hx hb dX8_isFigure_34 (by decide) ?_
      have q0 := Option.some.inj hf
      subst q0
      exact g_zret hx hb hr hlocks (by decide) hP hD hK hS dX8_isFigure_38
set_option maxHeartbeats 4000000 in
set_option maxRecDepth 100000 in
theorem c_X8_isFigure (l : Launch) (D : va_G) (cI cM : ClassId) (a_this a_this_all a_this_past a_this_refused a_this_box a_this_row a_this_text a_this_numbers a_this_before : Nat) (sz : Nat) (v_states : Int32) (v_empty : Int32) (v_cut : Int32) (v_rowMany : Int32) (v_taken : Int32) (v_found : Int32) (v_textLong : Int32) (v_at : Int32) (v_stopped : Int32) (v_text : Nat → Int32) {r : Int32} (hf : f_X8_isFigure v_textLong v_at v_text = some r) : Met l yX8_isFigure wsX8_isFigure rm_X8_isFigure (g_Pc D (g_tys cI cM) (ww_X8_isFigure cI cM a_this a_this_all a_this_past a_this_refused a_this_box a_this_row a_this_text a_this_numbers a_this_before v_states v_empty v_cut v_rowMany v_taken v_found v_textLong v_at v_stopped v_text) sz [.ref a_this]) (g_QI D (g_tys cI cM) (va_A (ww_X8_isFigure cI cM a_this a_this_all a_this_past a_this_refused a_this_box a_this_row a_this_text a_this_numbers a_this_before v_states v_empty v_cut v_rowMany v_taken v_found v_textLong v_at v_stopped v_text) sz) (ww_X8_isFigure cI cM a_this a_this_all a_this_past a_this_refused a_this_box a_this_row a_this_text a_this_numbers a_this_before v_states v_empty v_cut v_rowMany v_taken v_found v_textLong v_at v_stopped v_text) r) 0 0 (va_A (ww_X8_isFigure cI cM a_this a_this_all a_this_past a_this_refused a_this_box a_this_row a_this_text a_this_numbers a_this_before v_states v_empty v_cut v_rowMany v_taken v_found v_textLong v_at v_stopped v_text) sz) := by
  refine g_met (cc := cX8_isFigure) (maxL := 1) (ret := (some .boolean)) (Qc := fun D A => g_QI D (g_tys cI cM) A (ww_X8_isFigure cI cM a_this a_this_all a_this_past a_this_refused a_this_box a_this_row a_this_text a_this_numbers a_this_before v_states v_empty v_cut v_rowMany v_taken v_found v_textLong v_at v_stopped v_text) r) (by decide) rfl ?_
  intro p e s m below meth c A C0 hA hK hP hD
  have hl := lv_entry ([.ref a_this]) (n := 1) (Nat.le_of_ble_eq_true rfl)
  rw [lg_entry_eq]
  generalize (lg_sl ([.ref a_this]) ++ List.replicate (1 - (lg_sl ([.ref a_this])).length) Slot.unset).toArray = ls at hl ⊢
  have hl : lv_has ls 1 [(0, .ref a_this)] := hl
  exact w_X8_isFigure_B0 C0 hA hK s.heap [] ls hf hP hD va_S.rf (lv_sub hl [0] rfl)
/-! FloatBoxesModel.takes(IZ)Z -/
abbrev rm_X8_takes : Room := { frames := 2, cells := 0, slots := 0, locals := 45 }
abbrev ww_X8_takes (cI cM : ClassId) (a_this a_this_all a_this_past a_this_refused a_this_box a_this_row a_this_text a_this_numbers a_this_before : Nat) (v_states : Int32) (v_empty : Int32) (v_cut : Int32) (v_rowMany : Int32) (v_taken : Int32) (v_found : Int32) (v_textLong : Int32) (v_at : Int32) (v_stopped : Int32) (v_text : Nat → Int32) (v_numbers : Nat → Int32) : va_W := [(a_this, .inr (6, [.ref a_this_all, .ref a_this_past, .int v_states, .ref a_this_refused, .ref a_this_box, .int v_empty, .int v_cut, .ref a_this_row, .int v_rowMany, .int v_taken, .int v_found, .ref a_this_text, .int v_textLong, .int v_at, .ref a_this_numbers, .int v_stopped, .ref a_this_before])), (a_this_text, .inl (cI, 120, .inl v_text)), (a_this_numbers, .inl (cI, 4, .inl v_numbers))]
def f_X8_takes_B115 (N : Nat) (v_textLong : Int32) (v_text : Nat → Int32) (v_at : Int32) (v_numbers : Nat → Int32) (x5 : Int32) (z1 : Int32) (z2 : Int32) : Option (Int32 × Int32 × (Nat → Int32)) :=
  o_in z1 4 (
  if x5 ≤ 0 then
    some (0, v_at, upd v_numbers z1.toNatClampNeg z2)
  else
    o_b1 (f_X8_isFigure v_textLong v_at v_text) (fun (r122 : Int32) =>
    if r122 = 0 then
      some (1, v_at, upd v_numbers z1.toNatClampNeg z2)
    else
      some (0, v_at, upd v_numbers z1.toNatClampNeg z2)))
set_option maxHeartbeats 4000000 in
set_option maxRecDepth 100000 in
theorem w_X8_takes_B115 {p : Program} {l : Launch} {e : Env} {s : State} {m : MethodId} {args : Array Value} {below : List Frame} {meth : Method} {c : Code} {D : va_G} {cI cM : ClassId} {A : Nat → Prop} {a_this a_this_all a_this_past a_this_refused a_this_box a_this_row a_this_text a_this_numbers a_this_before : Nat} {v_states : Int32} {v_empty : Int32} {v_cut : Int32} {v_rowMany : Int32} {v_taken : Int32} {v_found : Int32} {v_stopped : Int32} {N : Nat} {v_textLong : Int32} {v_text : Nat → Int32} {r : Int32} {o_at : Int32} {o_numbers : Nat → Int32} (C0 : g_cx cX8_takes (some .boolean) 7 RX8 wsX8_takes p s m args meth c) (hA : ∀ q, s.heap.size ≤ q → A q) (hK : va_K D vwCl (g_tys cI cM) s) : ∀ (v_at : Int32) (v_numbers : Nat → Int32) (x5 : Int32) (z1 : Int32) (z2 : Int32) (H : Heap) (locs : List Loc) (ls : Array Slot), f_X8_takes_B115 N v_textLong v_text v_at v_numbers x5 z1 z2 = some (r, o_at, o_numbers) → va_P D vwCl (ww_X8_takes cI cM a_this a_this_all a_this_past a_this_refused a_this_box a_this_row a_this_text a_this_numbers a_this_before v_states v_empty v_cut v_rowMany v_taken v_found v_textLong v_at v_stopped v_text v_numbers) H → va_D A (ww_X8_takes cI cM a_this a_this_all a_this_past a_this_refused a_this_box a_this_row a_this_text a_this_numbers a_this_before v_states v_empty v_cut v_rowMany v_taken v_found v_textLong v_at v_stopped v_text v_numbers) → va_S A s.heap H locs → lv_has ls 7 [(0, .ref a_this), (5, .int x5)] → W p l e rm_X8_takes s m args below meth c H locs 0 0 (MQ below (g_QI D (g_tys cI cM) A (ww_X8_takes cI cM a_this a_this_all a_this_past a_this_refused a_this_box a_this_row a_this_text a_this_numbers a_this_before v_states v_empty v_cut v_rowMany v_taken v_found v_textLong o_at v_stopped v_text o_numbers) r) args s 0 0 A) (F0 m 115 ls [.int z2, .int z1, .ref a_this_numbers]) := by
  obtain ⟨hx, hb, hr, hml, hown, hts, hlocks⟩ := id C0
  intro v_at v_numbers x5 z1 z2 H locs ls hf hP hD hS hl
  unfold f_X8_takes_B115 at hf
  obtain ⟨h115, hf⟩ := o_in_go hf
  refine va_iast hx hb hK hP hD hS 2 0 rfl rfl h115 dX8_takes_115 (fun H locs hP hD hS => ?_)
  replace hP : va_P D vwCl (ww_X8_takes cI cM a_this a_this_all a_this_past a_this_refused a_this_box a_this_row a_this_text a_this_numbers a_this_before v_states v_empty v_cut v_rowMany v_taken v_found v_textLong v_at v_stopped v_text (upd v_numbers z1.toNatClampNeg z2)) H := hP
  replace hD : va_D A (ww_X8_takes cI cM a_this a_this_all a_this_past a_this_refused a_this_box a_this_row a_this_text a_this_numbers a_this_before v_states v_empty v_cut v_rowMany v_taken v_found v_textLong v_at v_stopped v_text (upd v_numbers z1.toNatClampNeg z2)) := hD
  refine lv_iload hx hb dX8_takes_116 (lv_at hl 1 rfl) ?_
  refine lv_if_le (tgt := 132) hx hb dX8_takes_118 (by decide) (fun c118 => ?_) (fun c118 => ?_)
  · replace hf := o_t c118 hf
    refine lv_iconst (v := 0) hx hb dX8_takes_132 (by decide) ?_
    obtain ⟨q0, y0⟩ := o_rp hf
    obtain ⟨q1, y1⟩ := o_rp y0
    have q2 := Option.some.inj y1
    subst q0 q1 q2
    exact g_zret hx hb hr hlocks (by decide) hP hD hK hS dX8_takes_133
  · replace hf := o_f c118 hf
    refine lv_aload_n hx hb dX8_takes_121 rfl (lv_at hl 0 rfl) ?_
    obtain ⟨r122, hg122, hf⟩ := o_b1_go hf
    refine g_callVi (wn := (ww_X8_takes cI cM a_this a_this_all a_this_past a_this_refused a_this_box a_this_row a_this_text a_this_numbers a_this_before v_states v_empty v_cut v_rowMany v_taken v_found v_textLong v_at v_stopped v_text (upd v_numbers z1.toNatClampNeg z2))) (rest := []) ⟨hx, hb, hml, hown, hts⟩ (c_X8_isFigure l D cI cM a_this a_this_all a_this_past a_this_refused a_this_box a_this_row a_this_text a_this_numbers a_this_before H.size v_states v_empty v_cut v_rowMany v_taken v_found v_textLong v_at v_stopped v_text hg122) (cwV 0 hts gX8_takes_X8_isFigure rfl rfl rfl (by decide +kernel) ⟨Nat.le_of_ble_eq_true rfl, Nat.le_of_ble_eq_true rfl⟩) hK hP hD hS hA [0, 1] [2] [1, 2, 0] rfl rfl rfl rfl rfl rfl (by decide) rfl rfl rfl hl.1 rfl (Nat.le_of_ble_eq_true rfl) dX8_takes_122 (fun H locs hP hD hS => ?_)
    refine lv_if_ne (tgt := 132) hx hb dX8_takes_125 (by decide) (fun c125 => ?_) (fun c125 => ?_)
    · replace hf := o_f c125 hf
      refine lv_iconst (v := 0) hx hb dX8_takes_132 (by decide) ?_
      obtain ⟨q0, y0⟩ := o_rp hf
      obtain ⟨q1, y1⟩ := o_rp y0
      have q2 := Option.some.inj y1
      subst q0 q1 q2
      exact g_zret hx hb hr hlocks (by decide) hP hD hK hS dX8_takes_133
    · replace hf := o_t c125 hf
      refine lv_iconst (v := 1) hx hb dX8_takes_128 (by decide) ?_
      refine lv_goto (tgt := 133) hx hb dX8_takes_129 (by decide) ?_
      obtain ⟨q0, y0⟩ := o_rp hf
      obtain ⟨q1, y1⟩ := o_rp y0
      have q2 := Option.some.inj y1
      subst q0 q1 q2
      exact g_zret hx hb hr hlocks (by decide) hP hD hK hS dX8_takes_133
def f_X8_takes_B97 (N : Nat) (v_textLong : Int32) (v_text : Nat → Int32) (v_at : Int32) (v_numbers : Nat → Int32) (x1 : Int32) (x4 : Int32) (x5 : Int32) (x6 : Int32) : Option (Int32 × Int32 × (Nat → Int32)) :=
  if x4 = 0 then
    f_X8_takes_B115 N v_textLong v_text v_at v_numbers x5 x1 x6
  else
    f_X8_takes_B115 N v_textLong v_text v_at v_numbers x5 x1 (-x6)
set_option maxHeartbeats 4000000 in
set_option maxRecDepth 100000 in
theorem w_X8_takes_B97 {p : Program} {l : Launch} {e : Env} {s : State} {m : MethodId} {args : Array Value} {below : List Frame} {meth : Method} {c : Code} {D : va_G} {cI cM : ClassId} {A : Nat → Prop} {a_this a_this_all a_this_past a_this_refused a_this_box a_this_row a_this_text a_this_numbers a_this_before : Nat} {v_states : Int32} {v_empty : Int32} {v_cut : Int32} {v_rowMany : Int32} {v_taken : Int32} {v_found : Int32} {v_stopped : Int32} {N : Nat} {v_textLong : Int32} {v_text : Nat → Int32} {r : Int32} {o_at : Int32} {o_numbers : Nat → Int32} (C0 : g_cx cX8_takes (some .boolean) 7 RX8 wsX8_takes p s m args meth c) (hA : ∀ q, s.heap.size ≤ q → A q) (hK : va_K D vwCl (g_tys cI cM) s) : ∀ (v_at : Int32) (v_numbers : Nat → Int32) (x1 : Int32) (x4 : Int32) (x5 : Int32) (x6 : Int32) (H : Heap) (locs : List Loc) (ls : Array Slot), f_X8_takes_B97 N v_textLong v_text v_at v_numbers x1 x4 x5 x6 = some (r, o_at, o_numbers) → va_P D vwCl (ww_X8_takes cI cM a_this a_this_all a_this_past a_this_refused a_this_box a_this_row a_this_text a_this_numbers a_this_before v_states v_empty v_cut v_rowMany v_taken v_found v_textLong v_at v_stopped v_text v_numbers) H → va_D A (ww_X8_takes cI cM a_this a_this_all a_this_past a_this_refused a_this_box a_this_row a_this_text a_this_numbers a_this_before v_states v_empty v_cut v_rowMany v_taken v_found v_textLong v_at v_stopped v_text v_numbers) → va_S A s.heap H locs → lv_has ls 7 [(0, .ref a_this), (1, .int x1), (4, .int x4), (5, .int x5), (6, .int x6)] → W p l e rm_X8_takes s m args below meth c H locs 0 0 (MQ below (g_QI D (g_tys cI cM) A (ww_X8_takes cI cM a_this a_this_all a_this_past a_this_refused a_this_box a_this_row a_this_text a_this_numbers a_this_before v_states v_empty v_cut v_rowMany v_taken v_found v_textLong o_at v_stopped v_text o_numbers) r) args s 0 0 A) (F0 m 97 ls []) := by
  obtain ⟨hx, hb, hr, hml, hown, hts, hlocks⟩ := id C0
  intro v_at v_numbers x1 x4 x5 x6 H locs ls hf hP hD hS hl
  unfold f_X8_takes_B97 at hf
  refine lv_aload_n hx hb dX8_takes_97 rfl (lv_at hl 0 rfl) ?_
  refine va_get (D := D) (ci := 6) (v := .ref a_this_numbers) (C := RX8) (T := TX8) (N := 17) hx hb hts (fun _ h => (List.mem_cons_of_mem _ (List.mem_append_right _ h))) hown hK hP 0 rfl rfl 14 (by decide) (hts (.fieldLink RX8 28 "FloatBoxesModel" "numbers" "[I") (List.mem_cons_of_mem _ (List.mem_append_left _ (List.mem_of_getElem? (i := 2) rfl)))) (fun _ h9 => h9) rfl dX8_takes_98 ?_
  refine lv_iload_n hx hb dX8_takes_101 rfl (lv_at hl 1 rfl) ?_
  refine lv_iload hx hb dX8_takes_102 (lv_at hl 2 rfl) ?_
  refine lv_if_eq (tgt := 113) hx hb dX8_takes_104 (by decide) (fun c104 => ?_) (fun c104 => ?_)
  · replace hf := o_t c104 hf
    refine lv_iload hx hb dX8_takes_113 (lv_at hl 4 rfl) ?_
    exact w_X8_takes_B115 C0 hA hK v_at v_numbers x5 x1 x6 H locs ls hf hP hD hS (lv_sub hl [0, 3] rfl)
  · replace hf := o_f c104 hf
    refine lv_iload hx hb dX8_takes_107 (lv_at hl 4 rfl) ?_
    refine lv_ineg hx hb dX8_takes_109 ?_
    refine lv_goto (tgt := 115) hx hb dX8_takes_110 (by decide) ?_
    exact w_X8_takes_B115 C0 hA hK v_at v_numbers x5 x1 (-x6) H locs ls hf hP hD hS (lv_sub hl [0, 3] rfl)
def f_X8_takes_C47 (N : Nat) (v_textLong : Int32) (v_text : Nat → Int32) (k47 : Int32 → (Nat → Int32) → Int32 → Int32 → Int32 → Int32 → Option (Int32 × Int32 × (Nat → Int32))) (v_at : Int32) (v_numbers : Nat → Int32) (x1 : Int32) (x4 : Int32) (x5 : Int32) (x6 : Int32) : Option (Int32 × Int32 × (Nat → Int32)) :=
  o_b1 (f_X8_isFigure v_textLong v_at v_text) (fun (r48 : Int32) =>
  if r48 = 0 then
    f_X8_takes_B97 N v_textLong v_text v_at v_numbers x1 x4 x5 x6
  else
    if 9 ≤ x5 then
      f_X8_takes_B97 N v_textLong v_text v_at v_numbers x1 x4 x5 x6
    else
      o_in v_at 120 (
      o_nm (((10 * x6) + (v_text v_at.toNatClampNeg)) - 48) (fun (t79 : Int32) =>
      k47 (v_at + 1) v_numbers x1 x4 (x5 + 1) t79)))
def f_X8_takes_L47 (N : Nat) (v_textLong : Int32) (v_text : Nat → Int32) : Nat → Int32 → (Nat → Int32) → Int32 → Int32 → Int32 → Int32 → Option (Int32 × Int32 × (Nat → Int32))
  | 0 => fun _ _ _ _ _ _ => none
  | n + 1 => f_X8_takes_C47 N v_textLong v_text (f_X8_takes_L47 N v_textLong v_text n)
set_option maxHeartbeats 4000000 in
set_option maxRecDepth 100000 in
theorem w_X8_takes_C47 {p : Program} {l : Launch} {e : Env} {s : State} {m : MethodId} {args : Array Value} {below : List Frame} {meth : Method} {c : Code} {D : va_G} {cI cM : ClassId} {A : Nat → Prop} {a_this a_this_all a_this_past a_this_refused a_this_box a_this_row a_this_text a_this_numbers a_this_before : Nat} {v_states : Int32} {v_empty : Int32} {v_cut : Int32} {v_rowMany : Int32} {v_taken : Int32} {v_found : Int32} {v_stopped : Int32} {N : Nat} {v_textLong : Int32} {v_text : Nat → Int32} {r : Int32} {o_at : Int32} {o_numbers : Nat → Int32} (C0 : g_cx cX8_takes (some .boolean) 7 RX8 wsX8_takes p s m args meth c) (hA : ∀ q, s.heap.size ≤ q → A q) (hK : va_K D vwCl (g_tys cI cM) s) (k47 : Int32 → (Nat → Int32) → Int32 → Int32 → Int32 → Int32 → Option (Int32 × Int32 × (Nat → Int32))) (hk47 : ∀ (v_at : Int32) (v_numbers : Nat → Int32) (x1 : Int32) (x4 : Int32) (x5 : Int32) (x6 : Int32) (H : Heap) (locs : List Loc) (ls : Array Slot), k47 v_at v_numbers x1 x4 x5 x6 = some (r, o_at, o_numbers) → va_P D vwCl (ww_X8_takes cI cM a_this a_this_all a_this_past a_this_refused a_this_box a_this_row a_this_text a_this_numbers a_this_before v_states v_empty v_cut v_rowMany v_taken v_found v_textLong v_at v_stopped v_text v_numbers) H → va_D A (ww_X8_takes cI cM a_this a_this_all a_this_past a_this_refused a_this_box a_this_row a_this_text a_this_numbers a_this_before v_states v_empty v_cut v_rowMany v_taken v_found v_textLong v_at v_stopped v_text v_numbers) → va_S A s.heap H locs → lv_has ls 7 [(0, .ref a_this), (1, .int x1), (4, .int x4), (5, .int x5), (6, .int x6)] → W p l e rm_X8_takes s m args below meth c H locs 0 0 (MQ below (g_QI D (g_tys cI cM) A (ww_X8_takes cI cM a_this a_this_all a_this_past a_this_refused a_this_box a_this_row a_this_text a_this_numbers a_this_before v_states v_empty v_cut v_rowMany v_taken v_found v_textLong o_at v_stopped v_text o_numbers) r) args s 0 0 A) (F0 m 47 ls [])) : ∀ (v_at : Int32) (v_numbers : Nat → Int32) (x1 : Int32) (x4 : Int32) (x5 : Int32) (x6 : Int32) (H : Heap) (locs : List Loc) (ls : Array Slot), f_X8_takes_C47 N v_textLong v_text k47 v_at v_numbers x1 x4 x5 x6 = some (r, o_at, o_numbers) → va_P D vwCl (ww_X8_takes cI cM a_this a_this_all a_this_past a_this_refused a_this_box a_this_row a_this_text a_this_numbers a_this_before v_states v_empty v_cut v_rowMany v_taken v_found v_textLong v_at v_stopped v_text v_numbers) H → va_D A (ww_X8_takes cI cM a_this a_this_all a_this_past a_this_refused a_this_box a_this_row a_this_text a_this_numbers a_this_before v_states v_empty v_cut v_rowMany v_taken v_found v_textLong v_at v_stopped v_text v_numbers) → va_S A s.heap H locs → lv_has ls 7 [(0, .ref a_this), (1, .int x1), (4, .int x4), (5, .int x5), (6, .int x6)] → W p l e rm_X8_takes s m args below meth c H locs 0 0 (MQ below (g_QI D (g_tys cI cM) A (ww_X8_takes cI cM a_this a_this_all a_this_past a_this_refused a_this_box a_this_row a_this_text a_this_numbers a_this_before v_states v_empty v_cut v_rowMany v_taken v_found v_textLong o_at v_stopped v_text o_numbers) r) args s 0 0 A) (F0 m 47 ls []) := by
  obtain ⟨hx, hb, hr, hml, hown, hts, hlocks⟩ := id C0
  intro v_at v_numbers x1 x4 x5 x6 H locs ls hf hP hD hS hl
  unfold f_X8_takes_C47 at hf
  refine lv_aload_n hx hb dX8_takes_47 rfl (lv_at hl 0 rfl) ?_
  obtain ⟨r48, hg48, hf⟩ := o_b1_go hf
  refine g_callVi (wn := (ww_X8_takes cI cM a_this a_this_all a_this_past a_this_refused a_this_box a_this_row a_this_text a_this_numbers a_this_before v_states v_empty v_cut v_rowMany v_taken v_found v_textLong v_at v_stopped v_text v_numbers)) (rest := []) ⟨hx, hb, hml, hown, hts⟩ (c_X8_isFigure l D cI cM a_this a_this_all a_this_past a_this_refused a_this_box a_this_row a_this_text a_this_numbers a_this_before H.size v_states v_empty v_cut v_rowMany v_taken v_found v_textLong v_at v_stopped v_text hg48) (cwV 0 hts gX8_takes_X8_isFigure rfl rfl rfl (by decide +kernel) ⟨Nat.le_of_ble_eq_true rfl, Nat.le_of_ble_eq_true rfl⟩) hK hP hD hS hA [0, 1] [2] [1, 2, 0] rfl rfl rfl rfl rfl rfl (by decide) rfl rfl rfl hl.1 rfl (Nat.le_of_ble_eq_true rfl) dX8_takes_48 (fun H locs hP hD hS => ?_)
  refine lv_if_eq (tgt := 97) hx hb dX8_takes_51 (by decide) (fun c51 => ?_) (fun c51 => ?_)
  · replace hf := o_t c51 hf
    exact w_X8_takes_B97 C0 hA hK v_at v_numbers x1 x4 x5 x6 H locs ls hf hP hD hS (lv_sub hl [0, 1, 2, 3, 4] rfl)
  · replace hf := o_f c51 hf
    refine lv_iload hx hb dX8_takes_54 (lv_at hl 3 rfl) ?_
    refine lv_bipush (v := 9) hx hb dX8_takes_56 (by decide) ?_
    refine lv_icmp_ge (tgt := 97) hx hb dX8_takes_58 (by decide) (fun c58 => ?_) (fun c58 => ?_)
    · replace hf := o_t c58 hf
      exact w_X8_takes_B97 C0 hA hK v_at v_numbers x1 x4 x5 x6 H locs ls hf hP hD hS (lv_sub hl [0, 1, 2, 3, 4] rfl)
    · replace hf := o_f c58 hf
      refine lv_bipush (v := 10) hx hb dX8_takes_61 (by decide) ?_
      refine lv_iload hx hb dX8_takes_63 (lv_at hl 4 rfl) ?_
      refine lv_imul hx hb dX8_takes_65 ?_
      refine lv_aload_n hx hb dX8_takes_66 rfl (lv_at hl 0 rfl) ?_
      refine va_get (D := D) (ci := 6) (v := .ref a_this_text) (C := RX8) (T := TX8) (N := 17) hx hb hts (fun _ h => (List.mem_cons_of_mem _ (List.mem_append_right _ h))) hown hK hP 0 rfl rfl 11 (by decide) (hts (.fieldLink RX8 25 "FloatBoxesModel" "text" "[I") (List.mem_cons_of_mem _ (List.mem_append_left _ (List.mem_of_getElem? (i := 1) rfl)))) (fun _ h9 => h9) rfl dX8_takes_67 ?_
      refine lv_aload_n hx hb dX8_takes_70 rfl (lv_at hl 0 rfl) ?_
      refine va_get (D := D) (ci := 6) (v := .int v_at) (C := RX8) (T := TX8) (N := 17) hx hb hts (fun _ h => (List.mem_cons_of_mem _ (List.mem_append_right _ h))) hown hK hP 0 rfl rfl 13 (by decide) (hts (.fieldLink RX8 280 "FloatBoxesModel" "at" "I") (List.mem_cons_of_mem _ (List.mem_append_left _ (List.mem_of_getElem? (i := 0) rfl)))) (fun _ h9 => h9) rfl dX8_takes_71 ?_
      obtain ⟨h74, hf⟩ := o_in_go hf
      refine va_iald hx hb hK hP 1 0 rfl rfl h74 dX8_takes_74 ?_
      refine lv_iadd hx hb dX8_takes_75 ?_
      refine lv_bipush (v := 48) hx hb dX8_takes_76 (by decide) ?_
      refine lv_isub hx hb dX8_takes_78 ?_
      refine lv_topi (fun t79 et79 => ?_)
      replace hf := o_nm_go et79 hf
      refine lv_istore (lv' := [(6, .int t79), (0, .ref a_this), (1, .int x1), (4, .int x4), (5, .int x5)]) hx hb dX8_takes_79 hl (by decide) rfl (fun ls hl => ?_)
      refine lv_aload_n hx hb dX8_takes_81 rfl (lv_at hl 1 rfl) ?_
      refine lv_dup hx hb dX8_takes_82 rfl ?_
      refine va_get (D := D) (ci := 6) (v := .int v_at) (C := RX8) (T := TX8) (N := 17) hx hb hts (fun _ h => (List.mem_cons_of_mem _ (List.mem_append_right _ h))) hown hK hP 0 rfl rfl 13 (by decide) (hts (.fieldLink RX8 280 "FloatBoxesModel" "at" "I") (List.mem_cons_of_mem _ (List.mem_append_left _ (List.mem_of_getElem? (i := 0) rfl)))) (fun _ h9 => h9) rfl dX8_takes_83 ?_
      refine lv_iconst (v := 1) hx hb dX8_takes_86 (by decide) ?_
      refine lv_iadd hx hb dX8_takes_87 ?_
      refine va_put (D := D) (ci := 6) (v := .int (v_at + 1)) (ty := .int) (C := RX8) (T := TX8) (N := 17) hx hb hts (fun _ h => (List.mem_cons_of_mem _ (List.mem_append_right _ h))) tyX8 tyX8_ok nmX8 hown hK hP hD hS 0 rfl rfl 13 (by decide) (hts (.fieldLink RX8 280 "FloatBoxesModel" "at" "I") (List.mem_cons_of_mem _ (List.mem_append_left _ (List.mem_of_getElem? (i := 0) rfl)))) (fun _ h9 => h9) rfl (by decide +kernel) rfl rfl (Nat.le_of_ble_eq_true rfl) dX8_takes_88 (fun H locs hP hD hS => ?_)
      replace hP : va_P D vwCl (ww_X8_takes cI cM a_this a_this_all a_this_past a_this_refused a_this_box a_this_row a_this_text a_this_numbers a_this_before v_states v_empty v_cut v_rowMany v_taken v_found v_textLong (v_at + 1) v_stopped v_text v_numbers) H := hP
      replace hD : va_D A (ww_X8_takes cI cM a_this a_this_all a_this_past a_this_refused a_this_box a_this_row a_this_text a_this_numbers a_this_before v_states v_empty v_cut v_rowMany v_taken v_found v_textLong (v_at + 1) v_stopped v_text v_numbers) := hD
      refine lv_iinc (v := x5 + 1) (lv' := [(5, .int (x5 + 1)), (6, .int t79), (0, .ref a_this), (1, .int x1), (4, .int x4)]) hx hb dX8_takes_91 hl (k := 4) rfl rfl (by decide) rfl (fun ls hl => ?_)
      refine lv_goto (tgt := 47) hx hb dX8_takes_94 (by decide) ?_
      exact hk47 (v_at + 1) v_numbers x1 x4 (x5 + 1) t79 H locs ls hf hP hD hS (lv_sub hl [2, 3, 4, 0, 1] rfl)
set_option maxHeartbeats 4000000 in
set_option maxRecDepth 100000 in
theorem w_X8_takes_L47 {p : Program} {l : Launch} {e : Env} {s : State} {m : MethodId} {args : Array Value} {below : List Frame} {meth : Method} {c : Code} {D : va_G} {cI cM : ClassId} {A : Nat → Prop} {a_this a_this_all a_this_past a_this_refused a_this_box a_this_row a_this_text a_this_numbers a_this_before : Nat} {v_states : Int32} {v_empty : Int32} {v_cut : Int32} {v_rowMany : Int32} {v_taken : Int32} {v_found : Int32} {v_stopped : Int32} {N : Nat} {v_textLong : Int32} {v_text : Nat → Int32} {r : Int32} {o_at : Int32} {o_numbers : Nat → Int32} (C0 : g_cx cX8_takes (some .boolean) 7 RX8 wsX8_takes p s m args meth c) (hA : ∀ q, s.heap.size ≤ q → A q) (hK : va_K D vwCl (g_tys cI cM) s) : ∀ n : Nat, ∀ (v_at : Int32) (v_numbers : Nat → Int32) (x1 : Int32) (x4 : Int32) (x5 : Int32) (x6 : Int32) (H : Heap) (locs : List Loc) (ls : Array Slot), f_X8_takes_L47 N v_textLong v_text n v_at v_numbers x1 x4 x5 x6 = some (r, o_at, o_numbers) → va_P D vwCl (ww_X8_takes cI cM a_this a_this_all a_this_past a_this_refused a_this_box a_this_row a_this_text a_this_numbers a_this_before v_states v_empty v_cut v_rowMany v_taken v_found v_textLong v_at v_stopped v_text v_numbers) H → va_D A (ww_X8_takes cI cM a_this a_this_all a_this_past a_this_refused a_this_box a_this_row a_this_text a_this_numbers a_this_before v_states v_empty v_cut v_rowMany v_taken v_found v_textLong v_at v_stopped v_text v_numbers) → va_S A s.heap H locs → lv_has ls 7 [(0, .ref a_this), (1, .int x1), (4, .int x4), (5, .int x5), (6, .int x6)] → W p l e rm_X8_takes s m args below meth c H locs 0 0 (MQ below (g_QI D (g_tys cI cM) A (ww_X8_takes cI cM a_this a_this_all a_this_past a_this_refused a_this_box a_this_row a_this_text a_this_numbers a_this_before v_states v_empty v_cut v_rowMany v_taken v_found v_textLong o_at v_stopped v_text o_numbers) r) args s 0 0 A) (F0 m 47 ls []) := by
  intro n
  induction n with
  | zero =>
    intro v_at v_numbers x1 x4 x5 x6 H locs ls hf
    exact absurd hf (fun h => nomatch h)
  | succ n ih =>
    intro v_at v_numbers x1 x4 x5 x6 H locs ls hf
    exact w_X8_takes_C47 C0 hA hK _ ih v_at v_numbers x1 x4 x5 x6 H locs ls hf
def f_X8_takes_B37 (N : Nat) (v_textLong : Int32) (v_text : Nat → Int32) (v_at : Int32) (v_numbers : Nat → Int32) (x1 : Int32) (x4 : Int32) (z1 : Int32) (z2 : Int32) : Option (Int32 × Int32 × (Nat → Int32)) :=
  f_X8_takes_L47 N v_textLong v_text N (z1 + z2) v_numbers x1 x4 0 0
set_option maxHeartbeats 4000000 in
set_option maxRecDepth 100000 in
theorem w_X8_takes_B37 {p : Program} {l : Launch} {e : Env} {s : State} {m : MethodId} {args : Array Value} {below : List Frame} {meth : Method} {c : Code} {D : va_G} {cI cM : ClassId} {A : Nat → Prop} {a_this a_this_all a_this_past a_this_refused a_this_box a_this_row a_this_text a_this_numbers a_this_before : Nat} {v_states : Int32} {v_empty : Int32} {v_cut : Int32} {v_rowMany : Int32} {v_taken : Int32} {v_found : Int32} {v_stopped : Int32} {N : Nat} {v_textLong : Int32} {v_text : Nat → Int32} {r : Int32} {o_at : Int32} {o_numbers : Nat → Int32} (C0 : g_cx cX8_takes (some .boolean) 7 RX8 wsX8_takes p s m args meth c) (hA : ∀ q, s.heap.size ≤ q → A q) (hK : va_K D vwCl (g_tys cI cM) s) : ∀ (v_at : Int32) (v_numbers : Nat → Int32) (x1 : Int32) (x4 : Int32) (z1 : Int32) (z2 : Int32) (H : Heap) (locs : List Loc) (ls : Array Slot), f_X8_takes_B37 N v_textLong v_text v_at v_numbers x1 x4 z1 z2 = some (r, o_at, o_numbers) → va_P D vwCl (ww_X8_takes cI cM a_this a_this_all a_this_past a_this_refused a_this_box a_this_row a_this_text a_this_numbers a_this_before v_states v_empty v_cut v_rowMany v_taken v_found v_textLong v_at v_stopped v_text v_numbers) H → va_D A (ww_X8_takes cI cM a_this a_this_all a_this_past a_this_refused a_this_box a_this_row a_this_text a_this_numbers a_this_before v_states v_empty v_cut v_rowMany v_taken v_found v_textLong v_at v_stopped v_text v_numbers) → va_S A s.heap H locs → lv_has ls 7 [(0, .ref a_this), (1, .int x1), (4, .int x4)] → W p l e rm_X8_takes s m args below meth c H locs 0 0 (MQ below (g_QI D (g_tys cI cM) A (ww_X8_takes cI cM a_this a_this_all a_this_past a_this_refused a_this_box a_this_row a_this_text a_this_numbers a_this_before v_states v_empty v_cut v_rowMany v_taken v_found v_textLong o_at v_stopped v_text o_numbers) r) args s 0 0 A) (F0 m 37 ls [.int z2, .int z1, .ref a_this]) := by
  obtain ⟨hx, hb, hr, hml, hown, hts, hlocks⟩ := id C0
  intro v_at v_numbers x1 x4 z1 z2 H locs ls hf hP hD hS hl
  unfold f_X8_takes_B37 at hf
  refine lv_iadd hx hb dX8_takes_37 ?_
  refine va_put (D := D) (ci := 6) (v := .int (z1 + z2)) (ty := .int) (C := RX8) (T := TX8) (N := 17) hx hb hts (fun _ h => (List.mem_cons_of_mem _ (List.mem_append_right _ h))) tyX8 tyX8_ok nmX8 hown hK hP hD hS 0 rfl rfl 13 (by decide) (hts (.fieldLink RX8 280 "FloatBoxesModel" "at" "I") (List.mem_cons_of_mem _ (List.mem_append_left _ (List.mem_of_getElem? (i := 0) rfl)))) (fun _ h9 => h9) rfl (by decide +kernel) rfl rfl (Nat.le_of_ble_eq_true rfl) dX8_takes_38 (fun H locs hP hD hS => ?_)
  replace hP : va_P D vwCl (ww_X8_takes cI cM a_this a_this_all a_this_past a_this_refused a_this_box a_this_row a_this_text a_this_numbers a_this_before v_states v_empty v_cut v_rowMany v_taken v_found v_textLong (z1 + z2) v_stopped v_text v_numbers) H := hP
  replace hD : va_D A (ww_X8_takes cI cM a_this a_this_all a_this_past a_this_refused a_this_box a_this_row a_this_text a_this_numbers a_this_before v_states v_empty v_cut v_rowMany v_taken v_found v_textLong (z1 + z2) v_stopped v_text v_numbers) := hD
  refine lv_iconst (v := 0) hx hb dX8_takes_41 (by decide) ?_
  refine lv_istore (lv' := [(5, .int 0), (0, .ref a_this), (1, .int x1), (4, .int x4)]) hx hb dX8_takes_42 hl (by decide) rfl (fun ls hl => ?_)
  refine lv_iconst (v := 0) hx hb dX8_takes_44 (by decide) ?_
  refine lv_istore (lv' := [(6, .int 0), (5, .int 0), (0, .ref a_this), (1, .int x1), (4, .int x4)]) hx hb dX8_takes_45 hl (by decide) rfl (fun ls hl => ?_)
  exact w_X8_takes_L47 C0 hA hK N (z1 + z2) v_numbers x1 x4 0 0 H locs ls hf hP hD hS (lv_sub hl [2, 3, 4, 1, 0] rfl)
def f_X8_takes_B20 (N : Nat) (v_textLong : Int32) (v_text : Nat → Int32) (v_at : Int32) (v_numbers : Nat → Int32) (x1 : Int32) (z0 : Int32) : Option (Int32 × Int32 × (Nat → Int32)) :=
  if z0 = 0 then
    f_X8_takes_B37 N v_textLong v_text v_at v_numbers x1 z0 v_at 0
  else
    f_X8_takes_B37 N v_textLong v_text v_at v_numbers x1 z0 v_at 1
set_option maxHeartbeats 4000000 in
set_option maxRecDepth 100000 in
theorem w_X8_takes_B20 {p : Program} {l : Launch} {e : Env} {s : State} {m : MethodId} {args : Array Value} {below : List Frame} {meth : Method} {c : Code} {D : va_G} {cI cM : ClassId} {A : Nat → Prop} {a_this a_this_all a_this_past a_this_refused a_this_box a_this_row a_this_text a_this_numbers a_this_before : Nat} {v_states : Int32} {v_empty : Int32} {v_cut : Int32} {v_rowMany : Int32} {v_taken : Int32} {v_found : Int32} {v_stopped : Int32} {N : Nat} {v_textLong : Int32} {v_text : Nat → Int32} {r : Int32} {o_at : Int32} {o_numbers : Nat → Int32} (C0 : g_cx cX8_takes (some .boolean) 7 RX8 wsX8_takes p s m args meth c) (hA : ∀ q, s.heap.size ≤ q → A q) (hK : va_K D vwCl (g_tys cI cM) s) : ∀ (v_at : Int32) (v_numbers : Nat → Int32) (x1 : Int32) (z0 : Int32) (H : Heap) (locs : List Loc) (ls : Array Slot), f_X8_takes_B20 N v_textLong v_text v_at v_numbers x1 z0 = some (r, o_at, o_numbers) → va_P D vwCl (ww_X8_takes cI cM a_this a_this_all a_this_past a_this_refused a_this_box a_this_row a_this_text a_this_numbers a_this_before v_states v_empty v_cut v_rowMany v_taken v_found v_textLong v_at v_stopped v_text v_numbers) H → va_D A (ww_X8_takes cI cM a_this a_this_all a_this_past a_this_refused a_this_box a_this_row a_this_text a_this_numbers a_this_before v_states v_empty v_cut v_rowMany v_taken v_found v_textLong v_at v_stopped v_text v_numbers) → va_S A s.heap H locs → lv_has ls 7 [(0, .ref a_this), (1, .int x1)] → W p l e rm_X8_takes s m args below meth c H locs 0 0 (MQ below (g_QI D (g_tys cI cM) A (ww_X8_takes cI cM a_this a_this_all a_this_past a_this_refused a_this_box a_this_row a_this_text a_this_numbers a_this_before v_states v_empty v_cut v_rowMany v_taken v_found v_textLong o_at v_stopped v_text o_numbers) r) args s 0 0 A) (F0 m 20 ls [.int z0]) := by
  obtain ⟨hx, hb, hr, hml, hown, hts, hlocks⟩ := id C0
  intro v_at v_numbers x1 z0 H locs ls hf hP hD hS hl
  unfold f_X8_takes_B20 at hf
  refine lv_istore (lv' := [(4, .int z0), (0, .ref a_this), (1, .int x1)]) hx hb dX8_takes_20 hl (by decide) rfl (fun ls hl => ?_)
  refine lv_aload_n hx hb dX8_takes_22 rfl (lv_at hl 1 rfl) ?_
  refine lv_dup hx hb dX8_takes_23 rfl ?_
  refine va_get (D := D) (ci := 6) (v := .int v_at) (C := RX8) (T := TX8) (N := 17) hx hb hts (fun _ h => (List.mem_cons_of_mem _ (List.mem_append_right _ h))) hown hK hP 0 rfl rfl 13 (by decide) (hts (.fieldLink RX8 280 "FloatBoxesModel" "at" "I") (List.mem_cons_of_mem _ (List.mem_append_left _ (List.mem_of_getElem? (i := 0) rfl)))) (fun _ h9 => h9) rfl dX8_takes_24 ?_
  refine lv_iload hx hb dX8_takes_27 (lv_at hl 0 rfl) ?_
  refine lv_if_eq (tgt := 36) hx hb dX8_takes_29 (by decide) (fun c29 => ?_) (fun c29 => ?_)
  · replace hf := o_t c29 hf
    refine lv_iconst (v := 0) hx hb dX8_takes_36 (by decide) ?_
    exact w_X8_takes_B37 C0 hA hK v_at v_numbers x1 z0 v_at 0 H locs ls hf hP hD hS (lv_sub hl [1, 2, 0] rfl)
  · replace hf := o_f c29 hf
    refine lv_iconst (v := 1) hx hb dX8_takes_32 (by decide) ?_
    refine lv_goto (tgt := 37) hx hb dX8_takes_33 (by decide) ?_
    exact w_X8_takes_B37 C0 hA hK v_at v_numbers x1 z0 v_at 1 H locs ls hf hP hD hS (lv_sub hl [1, 2, 0] rfl)
def f_X8_takes_B19 (N : Nat) (v_textLong : Int32) (v_text : Nat → Int32) (v_at : Int32) (v_numbers : Nat → Int32) (x1 : Int32) : Option (Int32 × Int32 × (Nat → Int32)) :=
  f_X8_takes_B20 N v_textLong v_text v_at v_numbers x1 0
set_option maxHeartbeats 4000000 in
set_option maxRecDepth 100000 in
theorem w_X8_takes_B19 {p : Program} {l : Launch} {e : Env} {s : State} {m : MethodId} {args : Array Value} {below : List Frame} {meth : Method} {c : Code} {D : va_G} {cI cM : ClassId} {A : Nat → Prop} {a_this a_this_all a_this_past a_this_refused a_this_box a_this_row a_this_text a_this_numbers a_this_before : Nat} {v_states : Int32} {v_empty : Int32} {v_cut : Int32} {v_rowMany : Int32} {v_taken : Int32} {v_found : Int32} {v_stopped : Int32} {N : Nat} {v_textLong : Int32} {v_text : Nat → Int32} {r : Int32} {o_at : Int32} {o_numbers : Nat → Int32} (C0 : g_cx cX8_takes (some .boolean) 7 RX8 wsX8_takes p s m args meth c) (hA : ∀ q, s.heap.size ≤ q → A q) (hK : va_K D vwCl (g_tys cI cM) s) : ∀ (v_at : Int32) (v_numbers : Nat → Int32) (x1 : Int32) (H : Heap) (locs : List Loc) (ls : Array Slot), f_X8_takes_B19 N v_textLong v_text v_at v_numbers x1 = some (r, o_at, o_numbers) → va_P D vwCl (ww_X8_takes cI cM a_this a_this_all a_this_past a_this_refused a_this_box a_this_row a_this_text a_this_numbers a_this_before v_states v_empty v_cut v_rowMany v_taken v_found v_textLong v_at v_stopped v_text v_numbers) H → va_D A (ww_X8_takes cI cM a_this a_this_all a_this_past a_this_refused a_this_box a_this_row a_this_text a_this_numbers a_this_before v_states v_empty v_cut v_rowMany v_taken v_found v_textLong v_at v_stopped v_text v_numbers) → va_S A s.heap H locs → lv_has ls 7 [(0, .ref a_this), (1, .int x1)] → W p l e rm_X8_takes s m args below meth c H locs 0 0 (MQ below (g_QI D (g_tys cI cM) A (ww_X8_takes cI cM a_this a_this_all a_this_past a_this_refused a_this_box a_this_row a_this_text a_this_numbers a_this_before v_states v_empty v_cut v_rowMany v_taken v_found v_textLong o_at v_stopped v_text o_numbers) r) args s 0 0 A) (F0 m 19 ls []) := by
  obtain ⟨hx, hb, hr, hml, hown, hts, hlocks⟩ := id C0
  intro v_at v_numbers x1 H locs ls hf hP hD hS hl
  unfold f_X8_takes_B19 at hf
  refine lv_iconst (v := 0) hx hb dX8_takes_19 (by decide) ?_
  exact w_X8_takes_B20 C0 hA hK v_at v_numbers x1 0 H locs ls hf hP hD hS (lv_sub hl [0, 1] rfl)
def f_X8_takes (N : Nat) (v_textLong : Int32) (v_text : Nat → Int32) (v_at : Int32) (v_numbers : Nat → Int32) (x1 : Int32) (x2 : Int32) : Option (Int32 × Int32 × (Nat → Int32)) :=
  o_b2 (f_X8_here N v_textLong v_text v_at) (fun (r1 : Int32) (v_at_1 : Int32) =>
  if r1 = 45 then
    if x2 = 0 then
      f_X8_takes_B19 N v_textLong v_text v_at_1 v_numbers x1
    else
      f_X8_takes_B20 N v_textLong v_text v_at_1 v_numbers x1 1
  else
    f_X8_takes_B19 N v_textLong v_text v_at_1 v_numbers x1)
set_option maxHeartbeats 4000000 in
set_option maxRecDepth 100000 in
theorem w_X8_takes_B0 {p : Program} {l : Launch} {e : Env} {s : State} {m : MethodId} {args : Array Value} {below : List Frame} {meth : Method} {c : Code} {D : va_G} {cI cM : ClassId} {A : Nat → Prop} {a_this a_this_all a_this_past a_this_refused a_this_box a_this_row a_this_text a_this_numbers a_this_before : Nat} {v_states : Int32} {v_empty : Int32} {v_cut : Int32} {v_rowMany : Int32} {v_taken : Int32} {v_found : Int32} {v_stopped : Int32} {N : Nat} {v_textLong : Int32} {v_text : Nat → Int32} {r : Int32} {o_at : Int32} {o_numbers : Nat → Int32} (C0 : g_cx cX8_takes (some .boolean) 7 RX8 wsX8_takes p s m args meth c) (hA : ∀ q, s.heap.size ≤ q → A q) (hK : va_K D vwCl (g_tys cI cM) s) : ∀ (v_at : Int32) (v_numbers : Nat → Int32) (x1 : Int32) (x2 : Int32) (H : Heap) (locs : List Loc) (ls : Array Slot), f_X8_takes N v_textLong v_text v_at v_numbers x1 x2 = some (r, o_at, o_numbers) → va_P D vwCl (ww_X8_takes cI cM a_this a_this_all a_this_past a_this_refused a_this_box a_this_row a_this_text a_this_numbers a_this_before v_states v_empty v_cut v_rowMany v_taken v_found v_textLong v_at v_stopped v_text v_numbers) H → va_D A (ww_X8_takes cI cM a_this a_this_all a_this_past a_this_refused a_this_box a_this_row a_this_text a_this_numbers a_this_before v_states v_empty v_cut v_rowMany v_taken v_found v_textLong v_at v_stopped v_text v_numbers) → va_S A s.heap H locs → lv_has ls 7 [(0, .ref a_this), (1, .int x1), (2, .int x2)] → W p l e rm_X8_takes s m args below meth c H locs 0 0 (MQ below (g_QI D (g_tys cI cM) A (ww_X8_takes cI cM a_this a_this_all a_this_past a_this_refused a_this_box a_this_row a_this_text a_this_numbers a_this_before v_states v_empty v_cut v_rowMany v_taken v_found v_textLong o_at v_stopped v_text o_numbers) r) args s 0 0 A) (F0 m 0 ls []) := by
  obtain ⟨hx, hb, hr, hml, hown, hts, hlocks⟩ := id C0
  intro v_at v_numbers x1 x2 H locs ls hf hP hD hS hl
  unfold f_X8_takes at hf
  refine lv_aload_n hx hb dX8_takes_0 rfl (lv_at hl 0 rfl) ?_
  obtain ⟨r1, v_at_1, hg1, hf⟩ := o_b2_go hf
  refine g_callVi (wn := (ww_X8_takes cI cM a_this a_this_all a_this_past a_this_refused a_this_box a_this_row a_this_text a_this_numbers a_this_before v_states v_empty v_cut v_rowMany v_taken v_found v_textLong v_at_1 v_stopped v_text v_numbers)) (rest := []) ⟨hx, hb, hml, hown, hts⟩ (c_X8_here l D cI cM a_this a_this_all a_this_past a_this_refused a_this_box a_this_row a_this_text a_this_numbers a_this_before H.size v_states v_empty v_cut v_rowMany v_taken v_found v_textLong v_at v_stopped v_text hg1) (cwV 0 hts gX8_takes_X8_here rfl rfl rfl (by decide +kernel) ⟨Nat.le_of_ble_eq_true rfl, Nat.le_of_ble_eq_true rfl⟩) hK hP hD hS hA [0, 1] [2] [1, 2, 0] rfl rfl rfl rfl rfl rfl (by decide) rfl rfl rfl hl.1 rfl (Nat.le_of_ble_eq_true rfl) dX8_takes_1 (fun H locs hP hD hS => ?_)
  refine lv_istore_n (lv' := [(3, .int r1), (0, .ref a_this), (1, .int x1), (2, .int x2)]) hx hb dX8_takes_4 rfl hl (by decide) rfl (fun ls hl => ?_)
  refine lv_iload_n hx hb dX8_takes_5 rfl (lv_at hl 0 rfl) ?_
  refine lv_bipush (v := 45) hx hb dX8_takes_6 (by decide) ?_
  refine lv_icmp_ne (tgt := 19) hx hb dX8_takes_8 (by decide) (fun c8 => ?_) (fun c8 => ?_)
  · replace hf := o_f c8 hf
    exact w_X8_takes_B19 C0 hA hK v_at_1 v_numbers x1 H locs ls hf hP hD hS (lv_sub hl [1, 2] rfl)
  · replace hf := o_t c8 hf
    refine lv_iload_n hx hb dX8_takes_11 rfl (lv_at hl 3 rfl) ?_
    refine lv_if_eq (tgt := 19) hx hb dX8_takes_12 (by decide) (fun c12 => ?_) (fun c12 => ?_)
    · replace hf := o_t c12 hf
      exact w_X8_takes_B19 C0 hA hK v_at_1 v_numbers x1 H locs ls hf hP hD hS (lv_sub hl [1, 2] rfl)
    · replace hf := o_f c12 hf
      refine lv_iconst (v := 1) hx hb dX8_takes_15 (by decide) ?_
      refine lv_goto (tgt := 20) hx hb dX8_takes_16 (by decide) ?_
      exact w_X8_takes_B20 C0 hA hK v_at_1 v_numbers x1 1 H locs ls hf hP hD hS (lv_sub hl [1, 2] rfl)
set_option maxHeartbeats 4000000 in
set_option maxRecDepth 100000 in
theorem c_X8_takes (l : Launch) (D : va_G) (cI cM : ClassId) (a_this a_this_all a_this_past a_this_refused a_this_box a_this_row a_this_text a_this_numbers a_this_before : Nat) (sz : Nat) (v_states : Int32) (v_empty : Int32) (v_cut : Int32) (v_rowMany : Int32) (v_taken : Int32) (v_found : Int32) (v_textLong : Int32) (v_at : Int32) (v_stopped : Int32) (v_text : Nat → Int32) (v_numbers : Nat → Int32) {N : Nat} {x1 : Int32} {x2 : Int32} {r : Int32} {o_at : Int32} {o_numbers : Nat → Int32} (hf : f_X8_takes N v_textLong v_text v_at v_numbers x1 x2 = some (r, o_at, o_numbers)) : Met l yX8_takes wsX8_takes rm_X8_takes (g_Pc D (g_tys cI cM) (ww_X8_takes cI cM a_this a_this_all a_this_past a_this_refused a_this_box a_this_row a_this_text a_this_numbers a_this_before v_states v_empty v_cut v_rowMany v_taken v_found v_textLong v_at v_stopped v_text v_numbers) sz [.ref a_this, .int x1, .int x2]) (g_QI D (g_tys cI cM) (va_A (ww_X8_takes cI cM a_this a_this_all a_this_past a_this_refused a_this_box a_this_row a_this_text a_this_numbers a_this_before v_states v_empty v_cut v_rowMany v_taken v_found v_textLong v_at v_stopped v_text v_numbers) sz) (ww_X8_takes cI cM a_this a_this_all a_this_past a_this_refused a_this_box a_this_row a_this_text a_this_numbers a_this_before v_states v_empty v_cut v_rowMany v_taken v_found v_textLong o_at v_stopped v_text o_numbers) r) 0 0 (va_A (ww_X8_takes cI cM a_this a_this_all a_this_past a_this_refused a_this_box a_this_row a_this_text a_this_numbers a_this_before v_states v_empty v_cut v_rowMany v_taken v_found v_textLong v_at v_stopped v_text v_numbers) sz) := by
  refine g_met (cc := cX8_takes) (maxL := 7) (ret := (some .boolean)) (Qc := fun D A => g_QI D (g_tys cI cM) A (ww_X8_takes cI cM a_this a_this_all a_this_past a_this_refused a_this_box a_this_row a_this_text a_this_numbers a_this_before v_states v_empty v_cut v_rowMany v_taken v_found v_textLong o_at v_stopped v_text o_numbers) r) (by decide) rfl ?_
  intro p e s m below meth c A C0 hA hK hP hD
  have hl := lv_entry ([.ref a_this, .int x1, .int x2]) (n := 7) (Nat.le_of_ble_eq_true rfl)
  rw [lg_entry_eq]
  generalize (lg_sl ([.ref a_this, .int x1, .int x2]) ++ List.replicate (7 - (lg_sl ([.ref a_this, .int x1, .int x2])).length) Slot.unset).toArray = ls at hl ⊢
  have hl : lv_has ls 7 [(0, .ref a_this), (1, .int x1), (2, .int x2)] := hl
  exact w_X8_takes_B0 C0 hA hK v_at v_numbers x1 x2 s.heap [] ls hf hP hD va_S.rf (lv_sub hl [0, 1, 2] rfl)
/-! FloatBoxesModel.numbersOf(I)I -/
abbrev rm_X8_numbersOf : Room := { frames := 0, cells := 0, slots := 0, locals := 0 }
def f_X8_numbersOf  (x0 : Int32) : Option (Int32) :=
  if x0 = 117 then
    some 2
  else
    if x0 = 107 then
      some 4
    else
      if x0 = 99 then
        some 0
      else
        if x0 = 120 then
          some 1
        else
          some ((-1))
set_option maxHeartbeats 4000000 in
set_option maxRecDepth 100000 in
theorem w_X8_numbersOf_B0 {p : Program} {l : Launch} {e : Env} {s : State} {m : MethodId} {args : Array Value} {below : List Frame} {meth : Method} {c : Code} {r : Int32} (C0 : g_cx cX8_numbersOf (some .int) 1 RX8 wsX8_numbersOf p s m args meth c) : ∀ (x0 : Int32) (ls : Array Slot), f_X8_numbersOf x0 = some r → lv_has ls 1 [(0, .int x0)] → W p l e rm_X8_numbersOf s m args below meth c s.heap [] 0 0 (MQ below (g_SI r) args s 0 0 (fun _ => False)) (F0 m 0 ls []) := by
  obtain ⟨hx, hb, hr, hml, hown, hts, hlocks⟩ := id C0
  intro x0 ls hf hl
  unfold f_X8_numbersOf at hf
  refine lv_iload_n hx hb dX8_numbersOf_0 rfl (lv_at hl 0 rfl) ?_
  refine lv_bipush (v := 117) hx hb dX8_numbersOf_1 (by decide) ?_
  refine lv_icmp_ne (tgt := 10) hx hb dX8_numbersOf_3 (by decide) (fun c3 => ?_) (fun c3 => ?_)
  · replace hf := o_f c3 hf
    refine lv_iload_n hx hb dX8_numbersOf_10 rfl (lv_at hl 0 rfl) ?_
    refine lv_bipush (v := 107) hx hb dX8_numbersOf_11 (by decide) ?_
    refine lv_icmp_ne (tgt := 20) hx hb dX8_numbersOf_13 (by decide) (fun c13 => ?_) (fun c13 => ?_)
    · replace hf := o_f c13 hf
      refine lv_iload_n hx hb dX8_numbersOf_20 rfl (lv_at hl 0 rfl) ?_
      refine lv_bipush (v := 99) hx hb dX8_numbersOf_21 (by decide) ?_
      refine lv_icmp_ne (tgt := 30) hx hb dX8_numbersOf_23 (by decide) (fun c23 => ?_) (fun c23 => ?_)
      · replace hf := o_f c23 hf
        refine lv_iload_n hx hb dX8_numbersOf_30 rfl (lv_at hl 0 rfl) ?_
        refine lv_bipush (v := 120) hx hb dX8_numbersOf_31 (by decide) ?_
        refine lv_icmp_ne (tgt := 40) hx hb dX8_numbersOf_33 (by decide) (fun c33 => ?_) (fun c33 => ?_)
        · replace hf := o_f c33 hf
          refine lv_iconst (v := (-1)) hx hb dX8_numbersOf_40 (by decide) ?_
          have q0 := Option.some.inj hf
          subst q0
          exact g_siret hx hb hr hlocks dX8_numbersOf_41
        · replace hf := o_t c33 hf
          refine lv_iconst (v := 1) hx hb dX8_numbersOf_36 (by decide) ?_
          refine lv_goto (tgt := 41) hx hb dX8_numbersOf_37 (by decide) ?_
          have q0 := Option.some.inj hf
          subst q0
          exact g_siret hx hb hr hlocks dX8_numbersOf_41
      · replace hf := o_t c23 hf
        refine lv_iconst (v := 0) hx hb dX8_numbersOf_26 (by decide) ?_
        refine lv_goto (tgt := 41) hx hb dX8_numbersOf_27 (by decide) ?_
        have q0 := Option.some.inj hf
        subst q0
        exact g_siret hx hb hr hlocks dX8_numbersOf_41
    · replace hf := o_t c13 hf
      refine lv_iconst (v := 4) hx hb dX8_numbersOf_16 (by decide) ?_
      refine lv_goto (tgt := 41) hx hb dX8_numbersOf_17 (by decide) ?_
      have q0 := Option.some.inj hf
      subst q0
      exact g_siret hx hb hr hlocks dX8_numbersOf_41
  · replace hf := o_t c3 hf
    refine lv_iconst (v := 2) hx hb dX8_numbersOf_6 (by decide) ?_
    refine lv_goto (tgt := 41) hx hb dX8_numbersOf_7 (by decide) ?_
    have q0 := Option.some.inj hf
    subst q0
    exact g_siret hx hb hr hlocks dX8_numbersOf_41
set_option maxHeartbeats 4000000 in
set_option maxRecDepth 100000 in
theorem c_X8_numbersOf (l : Launch) {x0 : Int32} {r : Int32} (hf : f_X8_numbersOf x0 = some r) : Met l yX8_numbersOf wsX8_numbersOf rm_X8_numbersOf (g_PS [.int x0]) (g_SI r) 0 0 (fun _ => False) := by
  refine g_metS (cc := cX8_numbersOf) (maxL := 1) (ret := (some .int)) (by decide) rfl ?_
  intro p e s m below meth c C0
  have hl := lv_entry ([.int x0]) (n := 1) (Nat.le_of_ble_eq_true rfl)
  rw [lg_entry_eq]
  generalize (lg_sl ([.int x0]) ++ List.replicate (1 - (lg_sl ([.int x0])).length) Slot.unset).toArray = ls at hl ⊢
  have hl : lv_has ls 1 [(0, .int x0)] := hl
  exact w_X8_numbersOf_B0 C0 x0 ls hf (lv_sub hl [0] rfl)
/-! FloatBoxesModel.does(I)V -/
abbrev rm_X8_does_ : Room := { frames := 12, cells := 0, slots := 0, locals := 292 }
abbrev ww_X8_does_ (cI cM : ClassId) (a_this a_this_all a_this_past a_this_refused a_this_box a_this_row a_this_text a_this_numbers a_this_before : Nat) (v_states : Int32) (v_empty : Int32) (v_cut : Int32) (v_rowMany : Int32) (v_taken : Int32) (v_found : Int32) (v_textLong : Int32) (v_at : Int32) (v_stopped : Int32) (v_all : Nat → Int32) (v_box : Nat → Int32) (v_numbers : Nat → Int32) : va_W := [(a_this, .inr (6, [.ref a_this_all, .ref a_this_past, .int v_states, .ref a_this_refused, .ref a_this_box, .int v_empty, .int v_cut, .ref a_this_row, .int v_rowMany, .int v_taken, .int v_found, .ref a_this_text, .int v_textLong, .int v_at, .ref a_this_numbers, .int v_stopped, .ref a_this_before])), (a_this_all, .inl (cI, 38, .inl v_all)), (a_this_box, .inl (cI, 12, .inl v_box)), (a_this_numbers, .inl (cI, 4, .inl v_numbers))]
def f_X8_does__B182 (N : Nat) (v_numbers : Nat → Int32) (v_empty : Int32) (v_cut : Int32) (v_stopped : Int32) (v_all : Nat → Int32) (v_box : Nat → Int32) (z1 : Int32) : Option (Int32 × Int32 × Int32 × (Nat → Int32) × (Nat → Int32)) :=
  o_ck (o_zb z1) (
  if z1 = 0 then
    o_in 0 4 (
    o_b2 (f_X8_dropNow N v_all (v_numbers (0 : Int32).toNatClampNeg)) (fun (r203 : Int32) (v_all_203 : Nat → Int32) =>
    some (v_empty, v_cut, z1, v_all_203, v_box)))
  else
    some (v_empty, v_cut, z1, v_all, v_box))
set_option maxHeartbeats 4000000 in
set_option maxRecDepth 100000 in
theorem w_X8_does__B182 {p : Program} {l : Launch} {e : Env} {s : State} {m : MethodId} {args : Array Value} {below : List Frame} {meth : Method} {c : Code} {D : va_G} {cI cM : ClassId} {A : Nat → Prop} {a_this a_this_all a_this_past a_this_refused a_this_box a_this_row a_this_text a_this_numbers a_this_before : Nat} {v_states : Int32} {v_rowMany : Int32} {v_taken : Int32} {v_found : Int32} {v_textLong : Int32} {v_at : Int32} {N : Nat} {v_numbers : Nat → Int32} {o_empty : Int32} {o_cut : Int32} {o_stopped : Int32} {o_all : Nat → Int32} {o_box : Nat → Int32} (C0 : g_cx cX8_does_ none 5 RX8 wsX8_does_ p s m args meth c) (hA : ∀ q, s.heap.size ≤ q → A q) (hK : va_K D vwCl (g_tys cI cM) s) : ∀ (v_empty : Int32) (v_cut : Int32) (v_stopped : Int32) (v_all : Nat → Int32) (v_box : Nat → Int32) (z1 : Int32) (H : Heap) (locs : List Loc) (ls : Array Slot), f_X8_does__B182 N v_numbers v_empty v_cut v_stopped v_all v_box z1 = some (o_empty, o_cut, o_stopped, o_all, o_box) → va_P D vwCl (ww_X8_does_ cI cM a_this a_this_all a_this_past a_this_refused a_this_box a_this_row a_this_text a_this_numbers a_this_before v_states v_empty v_cut v_rowMany v_taken v_found v_textLong v_at v_stopped v_all v_box v_numbers) H → va_D A (ww_X8_does_ cI cM a_this a_this_all a_this_past a_this_refused a_this_box a_this_row a_this_text a_this_numbers a_this_before v_states v_empty v_cut v_rowMany v_taken v_found v_textLong v_at v_stopped v_all v_box v_numbers) → va_S A s.heap H locs → lv_has ls 5 [(0, .ref a_this)] → W p l e rm_X8_does_ s m args below meth c H locs 0 0 (MQ below (g_QV D (g_tys cI cM) A (ww_X8_does_ cI cM a_this a_this_all a_this_past a_this_refused a_this_box a_this_row a_this_text a_this_numbers a_this_before v_states o_empty o_cut v_rowMany v_taken v_found v_textLong v_at o_stopped o_all o_box v_numbers)) args s 0 0 A) (F0 m 182 ls [.int z1, .ref a_this]) := by
  obtain ⟨hx, hb, hr, hml, hown, hts, hlocks⟩ := id C0
  intro v_empty v_cut v_stopped v_all v_box z1 H locs ls hf hP hD hS hl
  unfold f_X8_does__B182 at hf
  obtain ⟨hz182, hf⟩ := o_ck_go hf
  refine va_put (D := D) (ci := 6) (v := .int z1) (ty := .boolean) (C := RX8) (T := TX8) (N := 17) hx hb hts (fun _ h => (List.mem_cons_of_mem _ (List.mem_append_right _ h))) tyX8 tyX8_ok nmX8 hown hK hP hD hS 0 rfl rfl 15 (by decide) (hts (.fieldLink RX8 293 "FloatBoxesModel" "stopped" "Z") (List.mem_cons_of_mem _ (List.mem_append_left _ (List.mem_append_left _ (List.mem_of_getElem? (i := 1) rfl))))) (fun _ h9 => h9) rfl (by decide +kernel) (o_zb_nar hz182) (o_zb_fit hz182) (Nat.le_of_ble_eq_true rfl) dX8_does__182 (fun H locs hP hD hS => ?_)
  replace hP : va_P D vwCl (ww_X8_does_ cI cM a_this a_this_all a_this_past a_this_refused a_this_box a_this_row a_this_text a_this_numbers a_this_before v_states v_empty v_cut v_rowMany v_taken v_found v_textLong v_at z1 v_all v_box v_numbers) H := hP
  replace hD : va_D A (ww_X8_does_ cI cM a_this a_this_all a_this_past a_this_refused a_this_box a_this_row a_this_text a_this_numbers a_this_before v_states v_empty v_cut v_rowMany v_taken v_found v_textLong v_at z1 v_all v_box v_numbers) := hD
  refine lv_aload_n hx hb dX8_does__185 rfl (lv_at hl 0 rfl) ?_
  refine va_get (D := D) (ci := 6) (v := .int z1) (C := RX8) (T := TX8) (N := 17) hx hb hts (fun _ h => (List.mem_cons_of_mem _ (List.mem_append_right _ h))) hown hK hP 0 rfl rfl 15 (by decide) (hts (.fieldLink RX8 293 "FloatBoxesModel" "stopped" "Z") (List.mem_cons_of_mem _ (List.mem_append_left _ (List.mem_append_left _ (List.mem_of_getElem? (i := 1) rfl))))) (fun _ h9 => h9) rfl dX8_does__186 ?_
  refine lv_if_eq (tgt := 196) hx hb dX8_does__189 (by decide) (fun c189 => ?_) (fun c189 => ?_)
  · replace hf := o_t c189 hf
    refine lv_aload_n hx hb dX8_does__196 rfl (lv_at hl 0 rfl) ?_
    refine lv_aload_n hx hb dX8_does__197 rfl (lv_at hl 0 rfl) ?_
    refine va_get (D := D) (ci := 6) (v := .ref a_this_numbers) (C := RX8) (T := TX8) (N := 17) hx hb hts (fun _ h => (List.mem_cons_of_mem _ (List.mem_append_right _ h))) hown hK hP 0 rfl rfl 14 (by decide) (hts (.fieldLink RX8 28 "FloatBoxesModel" "numbers" "[I") (List.mem_cons_of_mem _ (List.mem_append_left _ (List.mem_append_left _ (List.mem_of_getElem? (i := 0) rfl))))) (fun _ h9 => h9) rfl dX8_does__198 ?_
    refine lv_iconst (v := 0) hx hb dX8_does__201 (by decide) ?_
    obtain ⟨h202, hf⟩ := o_in_go hf
    refine va_iald hx hb hK hP 3 0 rfl rfl h202 dX8_does__202 ?_
    obtain ⟨r203, v_all_203, hg203, hf⟩ := o_b2_go hf
    refine g_callVi (wn := (ww_X8_does_ cI cM a_this a_this_all a_this_past a_this_refused a_this_box a_this_row a_this_text a_this_numbers a_this_before v_states v_empty v_cut v_rowMany v_taken v_found v_textLong v_at z1 v_all_203 v_box v_numbers)) (rest := []) ⟨hx, hb, hml, hown, hts⟩ (c_X8_dropNow l D cI cM a_this a_this_all a_this_past a_this_refused a_this_box a_this_row a_this_text a_this_numbers a_this_before H.size v_states v_empty v_cut v_rowMany v_taken v_found v_textLong v_at z1 v_all hg203) (cwV 1 hts gX8_does__X8_dropNow rfl rfl rfl (by decide +kernel) ⟨Nat.le_of_ble_eq_true rfl, Nat.le_of_ble_eq_true rfl⟩) hK hP hD hS hA [0, 1] [2, 3] [2, 3, 0, 1] rfl rfl rfl rfl rfl rfl (by decide) rfl rfl rfl hl.1 rfl (Nat.le_of_ble_eq_true rfl) dX8_does__203 (fun H locs hP hD hS => ?_)
    refine lv_istore_n (lv' := [(2, .int r203), (0, .ref a_this)]) hx hb dX8_does__206 rfl hl (by decide) rfl (fun ls hl => ?_)
    refine lv_goto (tgt := 215) hx hb dX8_does__207 (by decide) ?_
    obtain ⟨q0, y0⟩ := o_rp hf
    obtain ⟨q1, y1⟩ := o_rp y0
    obtain ⟨q2, y2⟩ := o_rp y1
    obtain ⟨q3, y3⟩ := o_rp y2
    have q4 := Option.some.inj y3
    subst q0 q1 q2 q3 q4
    exact g_vret hx hb hr hlocks hP hD hK hS dX8_does__215
  · replace hf := o_f c189 hf
    refine lv_iconst (v := 0) hx hb dX8_does__192 (by decide) ?_
    refine lv_goto (tgt := 206) hx hb dX8_does__193 (by decide) ?_
    refine lv_istore_n (lv' := [(2, .int 0), (0, .ref a_this)]) hx hb dX8_does__206 rfl hl (by decide) rfl (fun ls hl => ?_)
    refine lv_goto (tgt := 215) hx hb dX8_does__207 (by decide) ?_
    obtain ⟨q0, y0⟩ := o_rp hf
    obtain ⟨q1, y1⟩ := o_rp y0
    obtain ⟨q2, y2⟩ := o_rp y1
    obtain ⟨q3, y3⟩ := o_rp y2
    have q4 := Option.some.inj y3
    subst q0 q1 q2 q3 q4
    exact g_vret hx hb hr hlocks hP hD hK hS dX8_does__215
def f_X8_does__B111 (N : Nat) (v_numbers : Nat → Int32) (v_empty : Int32) (v_cut : Int32) (v_stopped : Int32) (v_all : Nat → Int32) (v_box : Nat → Int32) (z1 : Int32) : Option (Int32 × Int32 × Int32 × (Nat → Int32) × (Nat → Int32)) :=
  o_ck (o_zb z1) (
  if z1 = 0 then
    o_in 0 4 (
    o_in 1 4 (
    o_in 2 4 (
    o_in 3 4 (
    o_b2 (f_X8_ruleNow v_all (v_numbers (0 : Int32).toNatClampNeg) (v_numbers (1 : Int32).toNatClampNeg) (v_numbers (2 : Int32).toNatClampNeg) (v_numbers (3 : Int32).toNatClampNeg)) (fun (r150 : Int32) (v_all_150 : Nat → Int32) =>
    some (v_empty, v_cut, z1, v_all_150, v_box))))))
  else
    some (v_empty, v_cut, z1, v_all, v_box))
set_option maxHeartbeats 4000000 in
set_option maxRecDepth 100000 in
theorem w_X8_does__B111 {p : Program} {l : Launch} {e : Env} {s : State} {m : MethodId} {args : Array Value} {below : List Frame} {meth : Method} {c : Code} {D : va_G} {cI cM : ClassId} {A : Nat → Prop} {a_this a_this_all a_this_past a_this_refused a_this_box a_this_row a_this_text a_this_numbers a_this_before : Nat} {v_states : Int32} {v_rowMany : Int32} {v_taken : Int32} {v_found : Int32} {v_textLong : Int32} {v_at : Int32} {N : Nat} {v_numbers : Nat → Int32} {o_empty : Int32} {o_cut : Int32} {o_stopped : Int32} {o_all : Nat → Int32} {o_box : Nat → Int32} (C0 : g_cx cX8_does_ none 5 RX8 wsX8_does_ p s m args meth c) (hA : ∀ q, s.heap.size ≤ q → A q) (hK : va_K D vwCl (g_tys cI cM) s) : ∀ (v_empty : Int32) (v_cut : Int32) (v_stopped : Int32) (v_all : Nat → Int32) (v_box : Nat → Int32) (z1 : Int32) (H : Heap) (locs : List Loc) (ls : Array Slot), f_X8_does__B111 N v_numbers v_empty v_cut v_stopped v_all v_box z1 = some (o_empty, o_cut, o_stopped, o_all, o_box) → va_P D vwCl (ww_X8_does_ cI cM a_this a_this_all a_this_past a_this_refused a_this_box a_this_row a_this_text a_this_numbers a_this_before v_states v_empty v_cut v_rowMany v_taken v_found v_textLong v_at v_stopped v_all v_box v_numbers) H → va_D A (ww_X8_does_ cI cM a_this a_this_all a_this_past a_this_refused a_this_box a_this_row a_this_text a_this_numbers a_this_before v_states v_empty v_cut v_rowMany v_taken v_found v_textLong v_at v_stopped v_all v_box v_numbers) → va_S A s.heap H locs → lv_has ls 5 [(0, .ref a_this)] → W p l e rm_X8_does_ s m args below meth c H locs 0 0 (MQ below (g_QV D (g_tys cI cM) A (ww_X8_does_ cI cM a_this a_this_all a_this_past a_this_refused a_this_box a_this_row a_this_text a_this_numbers a_this_before v_states o_empty o_cut v_rowMany v_taken v_found v_textLong v_at o_stopped o_all o_box v_numbers)) args s 0 0 A) (F0 m 111 ls [.int z1, .ref a_this]) := by
  obtain ⟨hx, hb, hr, hml, hown, hts, hlocks⟩ := id C0
  intro v_empty v_cut v_stopped v_all v_box z1 H locs ls hf hP hD hS hl
  unfold f_X8_does__B111 at hf
  obtain ⟨hz111, hf⟩ := o_ck_go hf
  refine va_put (D := D) (ci := 6) (v := .int z1) (ty := .boolean) (C := RX8) (T := TX8) (N := 17) hx hb hts (fun _ h => (List.mem_cons_of_mem _ (List.mem_append_right _ h))) tyX8 tyX8_ok nmX8 hown hK hP hD hS 0 rfl rfl 15 (by decide) (hts (.fieldLink RX8 293 "FloatBoxesModel" "stopped" "Z") (List.mem_cons_of_mem _ (List.mem_append_left _ (List.mem_append_left _ (List.mem_of_getElem? (i := 1) rfl))))) (fun _ h9 => h9) rfl (by decide +kernel) (o_zb_nar hz111) (o_zb_fit hz111) (Nat.le_of_ble_eq_true rfl) dX8_does__111 (fun H locs hP hD hS => ?_)
  replace hP : va_P D vwCl (ww_X8_does_ cI cM a_this a_this_all a_this_past a_this_refused a_this_box a_this_row a_this_text a_this_numbers a_this_before v_states v_empty v_cut v_rowMany v_taken v_found v_textLong v_at z1 v_all v_box v_numbers) H := hP
  replace hD : va_D A (ww_X8_does_ cI cM a_this a_this_all a_this_past a_this_refused a_this_box a_this_row a_this_text a_this_numbers a_this_before v_states v_empty v_cut v_rowMany v_taken v_found v_textLong v_at z1 v_all v_box v_numbers) := hD
  refine lv_aload_n hx hb dX8_does__114 rfl (lv_at hl 0 rfl) ?_
  refine va_get (D := D) (ci := 6) (v := .int z1) (C := RX8) (T := TX8) (N := 17) hx hb hts (fun _ h => (List.mem_cons_of_mem _ (List.mem_append_right _ h))) hown hK hP 0 rfl rfl 15 (by decide) (hts (.fieldLink RX8 293 "FloatBoxesModel" "stopped" "Z") (List.mem_cons_of_mem _ (List.mem_append_left _ (List.mem_append_left _ (List.mem_of_getElem? (i := 1) rfl))))) (fun _ h9 => h9) rfl dX8_does__115 ?_
  refine lv_if_eq (tgt := 125) hx hb dX8_does__118 (by decide) (fun c118 => ?_) (fun c118 => ?_)
  · replace hf := o_t c118 hf
    refine lv_aload_n hx hb dX8_does__125 rfl (lv_at hl 0 rfl) ?_
    refine lv_aload_n hx hb dX8_does__126 rfl (lv_at hl 0 rfl) ?_
    refine va_get (D := D) (ci := 6) (v := .ref a_this_numbers) (C := RX8) (T := TX8) (N := 17) hx hb hts (fun _ h => (List.mem_cons_of_mem _ (List.mem_append_right _ h))) hown hK hP 0 rfl rfl 14 (by decide) (hts (.fieldLink RX8 28 "FloatBoxesModel" "numbers" "[I") (List.mem_cons_of_mem _ (List.mem_append_left _ (List.mem_append_left _ (List.mem_of_getElem? (i := 0) rfl))))) (fun _ h9 => h9) rfl dX8_does__127 ?_
    refine lv_iconst (v := 0) hx hb dX8_does__130 (by decide) ?_
    obtain ⟨h131, hf⟩ := o_in_go hf
    refine va_iald hx hb hK hP 3 0 rfl rfl h131 dX8_does__131 ?_
    refine lv_aload_n hx hb dX8_does__132 rfl (lv_at hl 0 rfl) ?_
    refine va_get (D := D) (ci := 6) (v := .ref a_this_numbers) (C := RX8) (T := TX8) (N := 17) hx hb hts (fun _ h => (List.mem_cons_of_mem _ (List.mem_append_right _ h))) hown hK hP 0 rfl rfl 14 (by decide) (hts (.fieldLink RX8 28 "FloatBoxesModel" "numbers" "[I") (List.mem_cons_of_mem _ (List.mem_append_left _ (List.mem_append_left _ (List.mem_of_getElem? (i := 0) rfl))))) (fun _ h9 => h9) rfl dX8_does__133 ?_
    refine lv_iconst (v := 1) hx hb dX8_does__136 (by decide) ?_
    obtain ⟨h137, hf⟩ := o_in_go hf
    refine va_iald hx hb hK hP 3 0 rfl rfl h137 dX8_does__137 ?_
    refine lv_aload_n hx hb dX8_does__138 rfl (lv_at hl 0 rfl) ?_
    refine va_get (D := D) (ci := 6) (v := .ref a_this_numbers) (C := RX8) (T := TX8) (N := 17) hx hb hts (fun _ h => (List.mem_cons_of_mem _ (List.mem_append_right _ h))) hown hK hP 0 rfl rfl 14 (by decide) (hts (.fieldLink RX8 28 "FloatBoxesModel" "numbers" "[I") (List.mem_cons_of_mem _ (List.mem_append_left _ (List.mem_append_left _ (List.mem_of_getElem? (i := 0) rfl))))) (fun _ h9 => h9) rfl dX8_does__139 ?_
    refine lv_iconst (v := 2) hx hb dX8_does__142 (by decide) ?_
    obtain ⟨h143, hf⟩ := o_in_go hf
    refine va_iald hx hb hK hP 3 0 rfl rfl h143 dX8_does__143 ?_
    refine lv_aload_n hx hb dX8_does__144 rfl (lv_at hl 0 rfl) ?_
    refine va_get (D := D) (ci := 6) (v := .ref a_this_numbers) (C := RX8) (T := TX8) (N := 17) hx hb hts (fun _ h => (List.mem_cons_of_mem _ (List.mem_append_right _ h))) hown hK hP 0 rfl rfl 14 (by decide) (hts (.fieldLink RX8 28 "FloatBoxesModel" "numbers" "[I") (List.mem_cons_of_mem _ (List.mem_append_left _ (List.mem_append_left _ (List.mem_of_getElem? (i := 0) rfl))))) (fun _ h9 => h9) rfl dX8_does__145 ?_
    refine lv_iconst (v := 3) hx hb dX8_does__148 (by decide) ?_
    obtain ⟨h149, hf⟩ := o_in_go hf
    refine va_iald hx hb hK hP 3 0 rfl rfl h149 dX8_does__149 ?_
    obtain ⟨r150, v_all_150, hg150, hf⟩ := o_b2_go hf
    refine g_callVi (wn := (ww_X8_does_ cI cM a_this a_this_all a_this_past a_this_refused a_this_box a_this_row a_this_text a_this_numbers a_this_before v_states v_empty v_cut v_rowMany v_taken v_found v_textLong v_at z1 v_all_150 v_box v_numbers)) (rest := []) ⟨hx, hb, hml, hown, hts⟩ (c_X8_ruleNow l D cI cM a_this a_this_all a_this_past a_this_refused a_this_box a_this_row a_this_text a_this_numbers a_this_before H.size v_states v_empty v_cut v_rowMany v_taken v_found v_textLong v_at z1 v_all hg150) (cwV 4 hts gX8_does__X8_ruleNow rfl rfl rfl (by decide +kernel) ⟨Nat.le_of_ble_eq_true rfl, Nat.le_of_ble_eq_true rfl⟩) hK hP hD hS hA [0, 1] [2, 3] [2, 3, 0, 1] rfl rfl rfl rfl rfl rfl (by decide) rfl rfl rfl hl.1 rfl (Nat.le_of_ble_eq_true rfl) dX8_does__150 (fun H locs hP hD hS => ?_)
    refine lv_istore_n (lv' := [(2, .int r150), (0, .ref a_this)]) hx hb dX8_does__153 rfl hl (by decide) rfl (fun ls hl => ?_)
    refine lv_goto (tgt := 215) hx hb dX8_does__154 (by decide) ?_
    obtain ⟨q0, y0⟩ := o_rp hf
    obtain ⟨q1, y1⟩ := o_rp y0
    obtain ⟨q2, y2⟩ := o_rp y1
    obtain ⟨q3, y3⟩ := o_rp y2
    have q4 := Option.some.inj y3
    subst q0 q1 q2 q3 q4
    exact g_vret hx hb hr hlocks hP hD hK hS dX8_does__215
  · replace hf := o_f c118 hf
    refine lv_iconst (v := 0) hx hb dX8_does__121 (by decide) ?_
    refine lv_goto (tgt := 153) hx hb dX8_does__122 (by decide) ?_
    refine lv_istore_n (lv' := [(2, .int 0), (0, .ref a_this)]) hx hb dX8_does__153 rfl hl (by decide) rfl (fun ls hl => ?_)
    refine lv_goto (tgt := 215) hx hb dX8_does__154 (by decide) ?_
    obtain ⟨q0, y0⟩ := o_rp hf
    obtain ⟨q1, y1⟩ := o_rp y0
    obtain ⟨q2, y2⟩ := o_rp y1
    obtain ⟨q3, y3⟩ := o_rp y2
    have q4 := Option.some.inj y3
    subst q0 q1 q2 q3 q4
    exact g_vret hx hb hr hlocks hP hD hK hS dX8_does__215
def f_X8_does__B43 (N : Nat) (v_numbers : Nat → Int32) (v_empty : Int32) (v_cut : Int32) (v_stopped : Int32) (v_all : Nat → Int32) (v_box : Nat → Int32) (x2 : Int32) (x3 : Int32) (z1 : Int32) : Option (Int32 × Int32 × Int32 × (Nat → Int32) × (Nat → Int32)) :=
  o_ck (o_zb z1) (
  if z1 = 0 then
    o_b2 (f_X8_unknownNow v_all x2 x3) (fun (r60 : Int32) (v_all_60 : Nat → Int32) =>
    some (v_empty, v_cut, z1, v_all_60, v_box))
  else
    some (v_empty, v_cut, z1, v_all, v_box))
set_option maxHeartbeats 4000000 in
set_option maxRecDepth 100000 in
theorem w_X8_does__B43 {p : Program} {l : Launch} {e : Env} {s : State} {m : MethodId} {args : Array Value} {below : List Frame} {meth : Method} {c : Code} {D : va_G} {cI cM : ClassId} {A : Nat → Prop} {a_this a_this_all a_this_past a_this_refused a_this_box a_this_row a_this_text a_this_numbers a_this_before : Nat} {v_states : Int32} {v_rowMany : Int32} {v_taken : Int32} {v_found : Int32} {v_textLong : Int32} {v_at : Int32} {N : Nat} {v_numbers : Nat → Int32} {o_empty : Int32} {o_cut : Int32} {o_stopped : Int32} {o_all : Nat → Int32} {o_box : Nat → Int32} (C0 : g_cx cX8_does_ none 5 RX8 wsX8_does_ p s m args meth c) (hA : ∀ q, s.heap.size ≤ q → A q) (hK : va_K D vwCl (g_tys cI cM) s) : ∀ (v_empty : Int32) (v_cut : Int32) (v_stopped : Int32) (v_all : Nat → Int32) (v_box : Nat → Int32) (x2 : Int32) (x3 : Int32) (z1 : Int32) (H : Heap) (locs : List Loc) (ls : Array Slot), f_X8_does__B43 N v_numbers v_empty v_cut v_stopped v_all v_box x2 x3 z1 = some (o_empty, o_cut, o_stopped, o_all, o_box) → va_P D vwCl (ww_X8_does_ cI cM a_this a_this_all a_this_past a_this_refused a_this_box a_this_row a_this_text a_this_numbers a_this_before v_states v_empty v_cut v_rowMany v_taken v_found v_textLong v_at v_stopped v_all v_box v_numbers) H → va_D A (ww_X8_does_ cI cM a_this a_this_all a_this_past a_this_refused a_this_box a_this_row a_this_text a_this_numbers a_this_before v_states v_empty v_cut v_rowMany v_taken v_found v_textLong v_at v_stopped v_all v_box v_numbers) → va_S A s.heap H locs → lv_has ls 5 [(0, .ref a_this), (2, .int x2), (3, .int x3)] → W p l e rm_X8_does_ s m args below meth c H locs 0 0 (MQ below (g_QV D (g_tys cI cM) A (ww_X8_does_ cI cM a_this a_this_all a_this_past a_this_refused a_this_box a_this_row a_this_text a_this_numbers a_this_before v_states o_empty o_cut v_rowMany v_taken v_found v_textLong v_at o_stopped o_all o_box v_numbers)) args s 0 0 A) (F0 m 43 ls [.int z1, .ref a_this]) := by
  obtain ⟨hx, hb, hr, hml, hown, hts, hlocks⟩ := id C0
  intro v_empty v_cut v_stopped v_all v_box x2 x3 z1 H locs ls hf hP hD hS hl
  unfold f_X8_does__B43 at hf
  obtain ⟨hz43, hf⟩ := o_ck_go hf
  refine va_put (D := D) (ci := 6) (v := .int z1) (ty := .boolean) (C := RX8) (T := TX8) (N := 17) hx hb hts (fun _ h => (List.mem_cons_of_mem _ (List.mem_append_right _ h))) tyX8 tyX8_ok nmX8 hown hK hP hD hS 0 rfl rfl 15 (by decide) (hts (.fieldLink RX8 293 "FloatBoxesModel" "stopped" "Z") (List.mem_cons_of_mem _ (List.mem_append_left _ (List.mem_append_left _ (List.mem_of_getElem? (i := 1) rfl))))) (fun _ h9 => h9) rfl (by decide +kernel) (o_zb_nar hz43) (o_zb_fit hz43) (Nat.le_of_ble_eq_true rfl) dX8_does__43 (fun H locs hP hD hS => ?_)
  replace hP : va_P D vwCl (ww_X8_does_ cI cM a_this a_this_all a_this_past a_this_refused a_this_box a_this_row a_this_text a_this_numbers a_this_before v_states v_empty v_cut v_rowMany v_taken v_found v_textLong v_at z1 v_all v_box v_numbers) H := hP
  replace hD : va_D A (ww_X8_does_ cI cM a_this a_this_all a_this_past a_this_refused a_this_box a_this_row a_this_text a_this_numbers a_this_before v_states v_empty v_cut v_rowMany v_taken v_found v_textLong v_at z1 v_all v_box v_numbers) := hD
  refine lv_aload_n hx hb dX8_does__46 rfl (lv_at hl 0 rfl) ?_
  refine va_get (D := D) (ci := 6) (v := .int z1) (C := RX8) (T := TX8) (N := 17) hx hb hts (fun _ h => (List.mem_cons_of_mem _ (List.mem_append_right _ h))) hown hK hP 0 rfl rfl 15 (by decide) (hts (.fieldLink RX8 293 "FloatBoxesModel" "stopped" "Z") (List.mem_cons_of_mem _ (List.mem_append_left _ (List.mem_append_left _ (List.mem_of_getElem? (i := 1) rfl))))) (fun _ h9 => h9) rfl dX8_does__47 ?_
  refine lv_if_eq (tgt := 57) hx hb dX8_does__50 (by decide) (fun c50 => ?_) (fun c50 => ?_)
  · replace hf := o_t c50 hf
    refine lv_aload_n hx hb dX8_does__57 rfl (lv_at hl 0 rfl) ?_
    refine lv_iload_n hx hb dX8_does__58 rfl (lv_at hl 1 rfl) ?_
    refine lv_iload_n hx hb dX8_does__59 rfl (lv_at hl 2 rfl) ?_
    obtain ⟨r60, v_all_60, hg60, hf⟩ := o_b2_go hf
    refine g_callVi (wn := (ww_X8_does_ cI cM a_this a_this_all a_this_past a_this_refused a_this_box a_this_row a_this_text a_this_numbers a_this_before v_states v_empty v_cut v_rowMany v_taken v_found v_textLong v_at z1 v_all_60 v_box v_numbers)) (rest := []) ⟨hx, hb, hml, hown, hts⟩ (c_X8_unknownNow l D cI cM a_this a_this_all a_this_past a_this_refused a_this_box a_this_row a_this_text a_this_numbers a_this_before H.size v_states v_empty v_cut v_rowMany v_taken v_found v_textLong v_at z1 v_all hg60) (cwV 2 hts gX8_does__X8_unknownNow rfl rfl rfl (by decide +kernel) ⟨Nat.le_of_ble_eq_true rfl, Nat.le_of_ble_eq_true rfl⟩) hK hP hD hS hA [0, 1] [2, 3] [2, 3, 0, 1] rfl rfl rfl rfl rfl rfl (by decide) rfl rfl rfl hl.1 rfl (Nat.le_of_ble_eq_true rfl) dX8_does__60 (fun H locs hP hD hS => ?_)
    refine lv_istore (lv' := [(4, .int r60), (0, .ref a_this), (2, .int x2), (3, .int x3)]) hx hb dX8_does__63 hl (by decide) rfl (fun ls hl => ?_)
    refine lv_goto (tgt := 215) hx hb dX8_does__65 (by decide) ?_
    obtain ⟨q0, y0⟩ := o_rp hf
    obtain ⟨q1, y1⟩ := o_rp y0
    obtain ⟨q2, y2⟩ := o_rp y1
    obtain ⟨q3, y3⟩ := o_rp y2
    have q4 := Option.some.inj y3
    subst q0 q1 q2 q3 q4
    exact g_vret hx hb hr hlocks hP hD hK hS dX8_does__215
  · replace hf := o_f c50 hf
    refine lv_iconst (v := 0) hx hb dX8_does__53 (by decide) ?_
    refine lv_goto (tgt := 63) hx hb dX8_does__54 (by decide) ?_
    refine lv_istore (lv' := [(4, .int 0), (0, .ref a_this), (2, .int x2), (3, .int x3)]) hx hb dX8_does__63 hl (by decide) rfl (fun ls hl => ?_)
    refine lv_goto (tgt := 215) hx hb dX8_does__65 (by decide) ?_
    obtain ⟨q0, y0⟩ := o_rp hf
    obtain ⟨q1, y1⟩ := o_rp y0
    obtain ⟨q2, y2⟩ := o_rp y1
    obtain ⟨q3, y3⟩ := o_rp y2
    have q4 := Option.some.inj y3
    subst q0 q1 q2 q3 q4
    exact g_vret hx hb hr hlocks hP hD hK hS dX8_does__215
def f_X8_does_ (N : Nat) (v_numbers : Nat → Int32) (v_empty : Int32) (v_cut : Int32) (v_stopped : Int32) (v_all : Nat → Int32) (v_box : Nat → Int32) (x1 : Int32) : Option (Int32 × Int32 × Int32 × (Nat → Int32) × (Nat → Int32)) :=
  if x1 = 117 then
    o_in 0 4 (
    o_b1 (f_X8_place (FP.i2f (v_numbers (0 : Int32).toNatClampNeg))) (fun (r13 : Int32) =>
    o_in 1 4 (
    o_b1 (f_X8_place (FP.i2f (v_numbers (1 : Int32).toNatClampNeg))) (fun (r24 : Int32) =>
    o_b1 (f_X8_canUnknown v_all r13 r24) (fun (r32 : Int32) =>
    if 0 ≤ r32 then
      f_X8_does__B43 N v_numbers v_empty v_cut v_stopped v_all v_box r13 r24 0
    else
      f_X8_does__B43 N v_numbers v_empty v_cut v_stopped v_all v_box r13 r24 1)))))
  else
    if x1 = 107 then
      o_in 0 4 (
      o_in 1 4 (
      o_in 2 4 (
      o_in 3 4 (
      o_b1 (f_X8_canRule v_all (v_numbers (0 : Int32).toNatClampNeg) (v_numbers (1 : Int32).toNatClampNeg) (v_numbers (2 : Int32).toNatClampNeg) (v_numbers (3 : Int32).toNatClampNeg)) (fun (r100 : Int32) =>
      if 0 ≤ r100 then
        f_X8_does__B111 N v_numbers v_empty v_cut v_stopped v_all v_box 0
      else
        f_X8_does__B111 N v_numbers v_empty v_cut v_stopped v_all v_box 1)))))
    else
      if x1 = 120 then
        o_in 0 4 (
        o_b1 (f_X8_isRule v_all (v_numbers (0 : Int32).toNatClampNeg)) (fun (r171 : Int32) =>
        if r171 = 0 then
          f_X8_does__B182 N v_numbers v_empty v_cut v_stopped v_all v_box 1
        else
          f_X8_does__B182 N v_numbers v_empty v_cut v_stopped v_all v_box 0))
      else
        o_b5 (f_X8_cutNow N v_empty v_cut v_all v_box) (fun (r211 : Int32) (v_empty_211 : Int32) (v_cut_211 : Int32) (v_all_211 : Nat → Int32) (v_box_211 : Nat → Int32) =>
        some (v_empty_211, v_cut_211, v_stopped, v_all_211, v_box_211))
set_option maxHeartbeats 4000000 in
set_option maxRecDepth 100000 in
theorem w_X8_does__B0 {p : Program} {l : Launch} {e : Env} {s : State} {m : MethodId} {args : Array Value} {below : List Frame} {meth : Method} {c : Code} {D : va_G} {cI cM : ClassId} {A : Nat → Prop} {a_this a_this_all a_this_past a_this_refused a_this_box a_this_row a_this_text a_this_numbers a_this_before : Nat} {v_states : Int32} {v_rowMany : Int32} {v_taken : Int32} {v_found : Int32} {v_textLong : Int32} {v_at : Int32} {N : Nat} {v_numbers : Nat → Int32} {o_empty : Int32} {o_cut : Int32} {o_stopped : Int32} {o_all : Nat → Int32} {o_box : Nat → Int32} (C0 : g_cx cX8_does_ none 5 RX8 wsX8_does_ p s m args meth c) (hA : ∀ q, s.heap.size ≤ q → A q) (hK : va_K D vwCl (g_tys cI cM) s) : ∀ (v_empty : Int32) (v_cut : Int32) (v_stopped : Int32) (v_all : Nat → Int32) (v_box : Nat → Int32) (x1 : Int32) (H : Heap) (locs : List Loc) (ls : Array Slot), f_X8_does_ N v_numbers v_empty v_cut v_stopped v_all v_box x1 = some (o_empty, o_cut, o_stopped, o_all, o_box) → va_P D vwCl (ww_X8_does_ cI cM a_this a_this_all a_this_past a_this_refused a_this_box a_this_row a_this_text a_this_numbers a_this_before v_states v_empty v_cut v_rowMany v_taken v_found v_textLong v_at v_stopped v_all v_box v_numbers) H → va_D A (ww_X8_does_ cI cM a_this a_this_all a_this_past a_this_refused a_this_box a_this_row a_this_text a_this_numbers a_this_before v_states v_empty v_cut v_rowMany v_taken v_found v_textLong v_at v_stopped v_all v_box v_numbers) → va_S A s.heap H locs → lv_has ls 5 [(0, .ref a_this), (1, .int x1)] → W p l e rm_X8_does_ s m args below meth c H locs 0 0 (MQ below (g_QV D (g_tys cI cM) A (ww_X8_does_ cI cM a_this a_this_all a_this_past a_this_refused a_this_box a_this_row a_this_text a_this_numbers a_this_before v_states o_empty o_cut v_rowMany v_taken v_found v_textLong v_at o_stopped o_all o_box v_numbers)) args s 0 0 A) (F0 m 0 ls []) := by
  obtain ⟨hx, hb, hr, hml, hown, hts, hlocks⟩ := id C0
  intro v_empty v_cut v_stopped v_all v_box x1 H locs ls hf hP hD hS hl
  unfold f_X8_does_ at hf
  refine lv_iload_n hx hb dX8_does__0 rfl (lv_at hl 1 rfl) ?_
  refine lv_bipush (v := 117) hx hb dX8_does__1 (by decide) ?_
  refine lv_icmp_ne (tgt := 68) hx hb dX8_does__3 (by decide) (fun c3 => ?_) (fun c3 => ?_)
  · replace hf := o_f c3 hf
    refine lv_iload_n hx hb dX8_does__68 rfl (lv_at hl 1 rfl) ?_
    refine lv_bipush (v := 107) hx hb dX8_does__69 (by decide) ?_
    refine lv_icmp_ne (tgt := 157) hx hb dX8_does__71 (by decide) (fun c71 => ?_) (fun c71 => ?_)
    · replace hf := o_f c71 hf
      refine lv_iload_n hx hb dX8_does__157 rfl (lv_at hl 1 rfl) ?_
      refine lv_bipush (v := 120) hx hb dX8_does__158 (by decide) ?_
      refine lv_icmp_ne (tgt := 210) hx hb dX8_does__160 (by decide) (fun c160 => ?_) (fun c160 => ?_)
      · replace hf := o_f c160 hf
        refine lv_aload_n hx hb dX8_does__210 rfl (lv_at hl 0 rfl) ?_
        obtain ⟨r211, v_empty_211, v_cut_211, v_all_211, v_box_211, hg211, hf⟩ := o_b5_go hf
        refine g_callVi (wn := (ww_X8_does_ cI cM a_this a_this_all a_this_past a_this_refused a_this_box a_this_row a_this_text a_this_numbers a_this_before v_states v_empty_211 v_cut_211 v_rowMany v_taken v_found v_textLong v_at v_stopped v_all_211 v_box_211 v_numbers)) (rest := []) ⟨hx, hb, hml, hown, hts⟩ (c_X8_cutNow l D cI cM a_this a_this_all a_this_past a_this_refused a_this_box a_this_row a_this_text a_this_numbers a_this_before H.size v_states v_empty v_cut v_rowMany v_taken v_found v_textLong v_at v_stopped v_all v_box hg211) (cwV 0 hts gX8_does__X8_cutNow rfl rfl rfl (by decide +kernel) ⟨Nat.le_of_ble_eq_true rfl, Nat.le_of_ble_eq_true rfl⟩) hK hP hD hS hA [0, 1, 2] [3] [1, 2, 3, 0] rfl rfl rfl rfl rfl rfl (by decide) rfl rfl rfl hl.1 rfl (Nat.le_of_ble_eq_true rfl) dX8_does__211 (fun H locs hP hD hS => ?_)
        refine lv_istore_n (lv' := [(2, .int r211), (0, .ref a_this), (1, .int x1)]) hx hb dX8_does__214 rfl hl (by decide) rfl (fun ls hl => ?_)
        obtain ⟨q0, y0⟩ := o_rp hf
        obtain ⟨q1, y1⟩ := o_rp y0
        obtain ⟨q2, y2⟩ := o_rp y1
        obtain ⟨q3, y3⟩ := o_rp y2
        have q4 := Option.some.inj y3
        subst q0 q1 q2 q3 q4
        exact g_vret hx hb hr hlocks hP hD hK hS dX8_does__215
      · replace hf := o_t c160 hf
        refine lv_aload_n hx hb dX8_does__163 rfl (lv_at hl 0 rfl) ?_
        refine lv_aload_n hx hb dX8_does__164 rfl (lv_at hl 0 rfl) ?_
        refine lv_aload_n hx hb dX8_does__165 rfl (lv_at hl 0 rfl) ?_
        refine va_get (D := D) (ci := 6) (v := .ref a_this_numbers) (C := RX8) (T := TX8) (N := 17) hx hb hts (fun _ h => (List.mem_cons_of_mem _ (List.mem_append_right _ h))) hown hK hP 0 rfl rfl 14 (by decide) (hts (.fieldLink RX8 28 "FloatBoxesModel" "numbers" "[I") (List.mem_cons_of_mem _ (List.mem_append_left _ (List.mem_append_left _ (List.mem_of_getElem? (i := 0) rfl))))) (fun _ h9 => h9) rfl dX8_does__166 ?_
        refine lv_iconst (v := 0) hx hb dX8_does__169 (by decide) ?_
        obtain ⟨h170, hf⟩ := o_in_go hf
        refine va_iald hx hb hK hP 3 0 rfl rfl h170 dX8_does__170 ?_
        obtain ⟨r171, hg171, hf⟩ := o_b1_go hf
        refine g_callVi (wn := (ww_X8_does_ cI cM a_this a_this_all a_this_past a_this_refused a_this_box a_this_row a_this_text a_this_numbers a_this_before v_states v_empty v_cut v_rowMany v_taken v_found v_textLong v_at v_stopped v_all v_box v_numbers)) (rest := [.ref a_this]) ⟨hx, hb, hml, hown, hts⟩ (c_X8_isRule l D cI cM a_this a_this_all a_this_past a_this_refused a_this_box a_this_row a_this_text a_this_numbers a_this_before H.size v_states v_empty v_cut v_rowMany v_taken v_found v_textLong v_at v_stopped v_all hg171) (cwV 1 hts gX8_does__X8_isRule rfl rfl rfl (by decide +kernel) ⟨Nat.le_of_ble_eq_true rfl, Nat.le_of_ble_eq_true rfl⟩) hK hP hD hS hA [0, 1] [2, 3] [2, 3, 0, 1] rfl rfl rfl rfl rfl rfl (by decide) rfl rfl rfl hl.1 rfl (Nat.le_of_ble_eq_true rfl) dX8_does__171 (fun H locs hP hD hS => ?_)
        refine lv_if_ne (tgt := 181) hx hb dX8_does__174 (by decide) (fun c174 => ?_) (fun c174 => ?_)
        · replace hf := o_f c174 hf
          refine lv_iconst (v := 0) hx hb dX8_does__181 (by decide) ?_
          exact w_X8_does__B182 C0 hA hK v_empty v_cut v_stopped v_all v_box 0 H locs ls hf hP hD hS (lv_sub hl [0] rfl)
        · replace hf := o_t c174 hf
          refine lv_iconst (v := 1) hx hb dX8_does__177 (by decide) ?_
          refine lv_goto (tgt := 182) hx hb dX8_does__178 (by decide) ?_
          exact w_X8_does__B182 C0 hA hK v_empty v_cut v_stopped v_all v_box 1 H locs ls hf hP hD hS (lv_sub hl [0] rfl)
    · replace hf := o_t c71 hf
      refine lv_aload_n hx hb dX8_does__74 rfl (lv_at hl 0 rfl) ?_
      refine lv_aload_n hx hb dX8_does__75 rfl (lv_at hl 0 rfl) ?_
      refine lv_aload_n hx hb dX8_does__76 rfl (lv_at hl 0 rfl) ?_
      refine va_get (D := D) (ci := 6) (v := .ref a_this_numbers) (C := RX8) (T := TX8) (N := 17) hx hb hts (fun _ h => (List.mem_cons_of_mem _ (List.mem_append_right _ h))) hown hK hP 0 rfl rfl 14 (by decide) (hts (.fieldLink RX8 28 "FloatBoxesModel" "numbers" "[I") (List.mem_cons_of_mem _ (List.mem_append_left _ (List.mem_append_left _ (List.mem_of_getElem? (i := 0) rfl))))) (fun _ h9 => h9) rfl dX8_does__77 ?_
      refine lv_iconst (v := 0) hx hb dX8_does__80 (by decide) ?_
      obtain ⟨h81, hf⟩ := o_in_go hf
      refine va_iald hx hb hK hP 3 0 rfl rfl h81 dX8_does__81 ?_
      refine lv_aload_n hx hb dX8_does__82 rfl (lv_at hl 0 rfl) ?_
      refine va_get (D := D) (ci := 6) (v := .ref a_this_numbers) (C := RX8) (T := TX8) (N := 17) hx hb hts (fun _ h => (List.mem_cons_of_mem _ (List.mem_append_right _ h))) hown hK hP 0 rfl rfl 14 (by decide) (hts (.fieldLink RX8 28 "FloatBoxesModel" "numbers" "[I") (List.mem_cons_of_mem _ (List.mem_append_left _ (List.mem_append_left _ (List.mem_of_getElem? (i := 0) rfl))))) (fun _ h9 => h9) rfl dX8_does__83 ?_
      refine lv_iconst (v := 1) hx hb dX8_does__86 (by decide) ?_
      obtain ⟨h87, hf⟩ := o_in_go hf
      refine va_iald hx hb hK hP 3 0 rfl rfl h87 dX8_does__87 ?_
      refine lv_aload_n hx hb dX8_does__88 rfl (lv_at hl 0 rfl) ?_
      refine va_get (D := D) (ci := 6) (v := .ref a_this_numbers) (C := RX8) (T := TX8) (N := 17) hx hb hts (fun _ h => (List.mem_cons_of_mem _ (List.mem_append_right _ h))) hown hK hP 0 rfl rfl 14 (by decide) (hts (.fieldLink RX8 28 "FloatBoxesModel" "numbers" "[I") (List.mem_cons_of_mem _ (List.mem_append_left _ (List.mem_append_left _ (List.mem_of_getElem? (i := 0) rfl))))) (fun _ h9 => h9) rfl dX8_does__89 ?_
      refine lv_iconst (v := 2) hx hb dX8_does__92 (by decide) ?_
      obtain ⟨h93, hf⟩ := o_in_go hf
      refine va_iald hx hb hK hP 3 0 rfl rfl h93 dX8_does__93 ?_
      refine lv_aload_n hx hb dX8_does__94 rfl (lv_at hl 0 rfl) ?_
      refine va_get (D := D) (ci := 6) (v := .ref a_this_numbers) (C := RX8) (T := TX8) (N := 17) hx hb hts (fun _ h => (List.mem_cons_of_mem _ (List.mem_append_right _ h))) hown hK hP 0 rfl rfl 14 (by decide) (hts (.fieldLink RX8 28 "FloatBoxesModel" "numbers" "[I") (List.mem_cons_of_mem _ (List.mem_append_left _ (List.mem_append_left _ (List.mem_of_getElem? (i := 0) rfl))))) (fun _ h9 => h9) rfl dX8_does__95 ?_
      refine lv_iconst (v := 3) hx hb dX8_does__98 (by decide) ?_
      obtain ⟨h99, hf⟩ := o_in_go hf
      refine va_iald hx hb hK hP 3 0 rfl rfl h99 dX8_does__99 ?_
      obtain ⟨r100, hg100, hf⟩ := o_b1_go hf
      refine g_callVi (wn := (ww_X8_does_ cI cM a_this a_this_all a_this_past a_this_refused a_this_box a_this_row a_this_text a_this_numbers a_this_before v_states v_empty v_cut v_rowMany v_taken v_found v_textLong v_at v_stopped v_all v_box v_numbers)) (rest := [.ref a_this]) ⟨hx, hb, hml, hown, hts⟩ (c_X8_canRule l D cI cM a_this a_this_all a_this_past a_this_refused a_this_box a_this_row a_this_text a_this_numbers a_this_before H.size v_states v_empty v_cut v_rowMany v_taken v_found v_textLong v_at v_stopped v_all hg100) (cwV 4 hts gX8_does__X8_canRule rfl rfl rfl (by decide +kernel) ⟨Nat.le_of_ble_eq_true rfl, Nat.le_of_ble_eq_true rfl⟩) hK hP hD hS hA [0, 1] [2, 3] [2, 3, 0, 1] rfl rfl rfl rfl rfl rfl (by decide) rfl rfl rfl hl.1 rfl (Nat.le_of_ble_eq_true rfl) dX8_does__100 (fun H locs hP hD hS => ?_)
      refine lv_if_ge (tgt := 110) hx hb dX8_does__103 (by decide) (fun c103 => ?_) (fun c103 => ?_)
      · replace hf := o_t c103 hf
        refine lv_iconst (v := 0) hx hb dX8_does__110 (by decide) ?_
        exact w_X8_does__B111 C0 hA hK v_empty v_cut v_stopped v_all v_box 0 H locs ls hf hP hD hS (lv_sub hl [0] rfl)
      · replace hf := o_f c103 hf
        refine lv_iconst (v := 1) hx hb dX8_does__106 (by decide) ?_
        refine lv_goto (tgt := 111) hx hb dX8_does__107 (by decide) ?_
        exact w_X8_does__B111 C0 hA hK v_empty v_cut v_stopped v_all v_box 1 H locs ls hf hP hD hS (lv_sub hl [0] rfl)
  · replace hf := o_t c3 hf
    refine lv_aload_n hx hb dX8_does__6 rfl (lv_at hl 0 rfl) ?_
    refine va_get (D := D) (ci := 6) (v := .ref a_this_numbers) (C := RX8) (T := TX8) (N := 17) hx hb hts (fun _ h => (List.mem_cons_of_mem _ (List.mem_append_right _ h))) hown hK hP 0 rfl rfl 14 (by decide) (hts (.fieldLink RX8 28 "FloatBoxesModel" "numbers" "[I") (List.mem_cons_of_mem _ (List.mem_append_left _ (List.mem_append_left _ (List.mem_of_getElem? (i := 0) rfl))))) (fun _ h9 => h9) rfl dX8_does__7 ?_
    refine lv_iconst (v := 0) hx hb dX8_does__10 (by decide) ?_
    obtain ⟨h11, hf⟩ := o_in_go hf
    refine va_iald hx hb hK hP 3 0 rfl rfl h11 dX8_does__11 ?_
    refine lv_i2f hx hb dX8_does__12 ?_
    obtain ⟨r13, hg13, hf⟩ := o_b1_go hf
    refine g_callSi (rest := []) ⟨hx, hb, hml, hown, hts⟩ (c_X8_place l hg13) (va_cwS 1 hts gX8_does__X8_place rfl rfl rfl (by decide +kernel) ⟨Nat.le_of_ble_eq_true rfl, Nat.le_of_ble_eq_true rfl⟩) rfl hl.1 rfl (Nat.le_of_ble_eq_true rfl) dX8_does__13 ?_
    refine lv_istore_n (lv' := [(2, .int r13), (0, .ref a_this), (1, .int x1)]) hx hb dX8_does__16 rfl hl (by decide) rfl (fun ls hl => ?_)
    refine lv_aload_n hx hb dX8_does__17 rfl (lv_at hl 1 rfl) ?_
    refine va_get (D := D) (ci := 6) (v := .ref a_this_numbers) (C := RX8) (T := TX8) (N := 17) hx hb hts (fun _ h => (List.mem_cons_of_mem _ (List.mem_append_right _ h))) hown hK hP 0 rfl rfl 14 (by decide) (hts (.fieldLink RX8 28 "FloatBoxesModel" "numbers" "[I") (List.mem_cons_of_mem _ (List.mem_append_left _ (List.mem_append_left _ (List.mem_of_getElem? (i := 0) rfl))))) (fun _ h9 => h9) rfl dX8_does__18 ?_
    refine lv_iconst (v := 1) hx hb dX8_does__21 (by decide) ?_
    obtain ⟨h22, hf⟩ := o_in_go hf
    refine va_iald hx hb hK hP 3 0 rfl rfl h22 dX8_does__22 ?_
    refine lv_i2f hx hb dX8_does__23 ?_
    obtain ⟨r24, hg24, hf⟩ := o_b1_go hf
    refine g_callSi (rest := []) ⟨hx, hb, hml, hown, hts⟩ (c_X8_place l hg24) (va_cwS 1 hts gX8_does__X8_place rfl rfl rfl (by decide +kernel) ⟨Nat.le_of_ble_eq_true rfl, Nat.le_of_ble_eq_true rfl⟩) rfl hl.1 rfl (Nat.le_of_ble_eq_true rfl) dX8_does__24 ?_
    refine lv_istore_n (lv' := [(3, .int r24), (2, .int r13), (0, .ref a_this), (1, .int x1)]) hx hb dX8_does__27 rfl hl (by decide) rfl (fun ls hl => ?_)
    refine lv_aload_n hx hb dX8_does__28 rfl (lv_at hl 2 rfl) ?_
    refine lv_aload_n hx hb dX8_does__29 rfl (lv_at hl 2 rfl) ?_
    refine lv_iload_n hx hb dX8_does__30 rfl (lv_at hl 1 rfl) ?_
    refine lv_iload_n hx hb dX8_does__31 rfl (lv_at hl 0 rfl) ?_
    obtain ⟨r32, hg32, hf⟩ := o_b1_go hf
    refine g_callVi (wn := (ww_X8_does_ cI cM a_this a_this_all a_this_past a_this_refused a_this_box a_this_row a_this_text a_this_numbers a_this_before v_states v_empty v_cut v_rowMany v_taken v_found v_textLong v_at v_stopped v_all v_box v_numbers)) (rest := [.ref a_this]) ⟨hx, hb, hml, hown, hts⟩ (c_X8_canUnknown l D cI cM a_this a_this_all a_this_past a_this_refused a_this_box a_this_row a_this_text a_this_numbers a_this_before H.size v_states v_empty v_cut v_rowMany v_taken v_found v_textLong v_at v_stopped v_all hg32) (cwV 2 hts gX8_does__X8_canUnknown rfl rfl rfl (by decide +kernel) ⟨Nat.le_of_ble_eq_true rfl, Nat.le_of_ble_eq_true rfl⟩) hK hP hD hS hA [0, 1] [2, 3] [2, 3, 0, 1] rfl rfl rfl rfl rfl rfl (by decide) rfl rfl rfl hl.1 rfl (Nat.le_of_ble_eq_true rfl) dX8_does__32 (fun H locs hP hD hS => ?_)
    refine lv_if_ge (tgt := 42) hx hb dX8_does__35 (by decide) (fun c35 => ?_) (fun c35 => ?_)
    · replace hf := o_t c35 hf
      refine lv_iconst (v := 0) hx hb dX8_does__42 (by decide) ?_
      exact w_X8_does__B43 C0 hA hK v_empty v_cut v_stopped v_all v_box r13 r24 0 H locs ls hf hP hD hS (lv_sub hl [2, 1, 0] rfl)
    · replace hf := o_f c35 hf
      refine lv_iconst (v := 1) hx hb dX8_does__38 (by decide) ?_
      refine lv_goto (tgt := 43) hx hb dX8_does__39 (by decide) ?_
      exact w_X8_does__B43 C0 hA hK v_empty v_cut v_stopped v_all v_box r13 r24 1 H locs ls hf hP hD hS (lv_sub hl [2, 1, 0] rfl)
set_option maxHeartbeats 4000000 in
set_option maxRecDepth 100000 in
theorem c_X8_does_ (l : Launch) (D : va_G) (cI cM : ClassId) (a_this a_this_all a_this_past a_this_refused a_this_box a_this_row a_this_text a_this_numbers a_this_before : Nat) (sz : Nat) (v_states : Int32) (v_empty : Int32) (v_cut : Int32) (v_rowMany : Int32) (v_taken : Int32) (v_found : Int32) (v_textLong : Int32) (v_at : Int32) (v_stopped : Int32) (v_all : Nat → Int32) (v_box : Nat → Int32) (v_numbers : Nat → Int32) {N : Nat} {x1 : Int32} {o_empty : Int32} {o_cut : Int32} {o_stopped : Int32} {o_all : Nat → Int32} {o_box : Nat → Int32} (hf : f_X8_does_ N v_numbers v_empty v_cut v_stopped v_all v_box x1 = some (o_empty, o_cut, o_stopped, o_all, o_box)) : Met l yX8_does_ wsX8_does_ rm_X8_does_ (g_Pc D (g_tys cI cM) (ww_X8_does_ cI cM a_this a_this_all a_this_past a_this_refused a_this_box a_this_row a_this_text a_this_numbers a_this_before v_states v_empty v_cut v_rowMany v_taken v_found v_textLong v_at v_stopped v_all v_box v_numbers) sz [.ref a_this, .int x1]) (g_QV D (g_tys cI cM) (va_A (ww_X8_does_ cI cM a_this a_this_all a_this_past a_this_refused a_this_box a_this_row a_this_text a_this_numbers a_this_before v_states v_empty v_cut v_rowMany v_taken v_found v_textLong v_at v_stopped v_all v_box v_numbers) sz) (ww_X8_does_ cI cM a_this a_this_all a_this_past a_this_refused a_this_box a_this_row a_this_text a_this_numbers a_this_before v_states o_empty o_cut v_rowMany v_taken v_found v_textLong v_at o_stopped o_all o_box v_numbers)) 0 0 (va_A (ww_X8_does_ cI cM a_this a_this_all a_this_past a_this_refused a_this_box a_this_row a_this_text a_this_numbers a_this_before v_states v_empty v_cut v_rowMany v_taken v_found v_textLong v_at v_stopped v_all v_box v_numbers) sz) := by
  refine g_met (cc := cX8_does_) (maxL := 5) (ret := none) (Qc := fun D A => g_QV D (g_tys cI cM) A (ww_X8_does_ cI cM a_this a_this_all a_this_past a_this_refused a_this_box a_this_row a_this_text a_this_numbers a_this_before v_states o_empty o_cut v_rowMany v_taken v_found v_textLong v_at o_stopped o_all o_box v_numbers)) (by decide) rfl ?_
  intro p e s m below meth c A C0 hA hK hP hD
  have hl := lv_entry ([.ref a_this, .int x1]) (n := 5) (Nat.le_of_ble_eq_true rfl)
  rw [lg_entry_eq]
  generalize (lg_sl ([.ref a_this, .int x1]) ++ List.replicate (5 - (lg_sl ([.ref a_this, .int x1])).length) Slot.unset).toArray = ls at hl ⊢
  have hl : lv_has ls 5 [(0, .ref a_this), (1, .int x1)] := hl
  exact w_X8_does__B0 C0 hA hK v_empty v_cut v_stopped v_all v_box x1 s.heap [] ls hf hP hD va_S.rf (lv_sub hl [0, 1] rfl)
/-! FloatBoxesModel.readsOrder(Z)Z -/
abbrev rm_X8_readsOrder : Room := { frames := 13, cells := 0, slots := 0, locals := 316 }
abbrev ww_X8_readsOrder (cI cM : ClassId) (a_this a_this_all a_this_past a_this_refused a_this_box a_this_row a_this_text a_this_numbers a_this_before : Nat) (v_states : Int32) (v_empty : Int32) (v_cut : Int32) (v_rowMany : Int32) (v_taken : Int32) (v_found : Int32) (v_textLong : Int32) (v_at : Int32) (v_stopped : Int32) (v_text : Nat → Int32) (v_all : Nat → Int32) (v_box : Nat → Int32) (v_numbers : Nat → Int32) : va_W := [(a_this, .inr (6, [.ref a_this_all, .ref a_this_past, .int v_states, .ref a_this_refused, .ref a_this_box, .int v_empty, .int v_cut, .ref a_this_row, .int v_rowMany, .int v_taken, .int v_found, .ref a_this_text, .int v_textLong, .int v_at, .ref a_this_numbers, .int v_stopped, .ref a_this_before])), (a_this_text, .inl (cI, 120, .inl v_text)), (a_this_all, .inl (cI, 38, .inl v_all)), (a_this_box, .inl (cI, 12, .inl v_box)), (a_this_numbers, .inl (cI, 4, .inl v_numbers))]
def f_X8_readsOrder_B49 (N : Nat) (v_textLong : Int32) (v_text : Nat → Int32) (k29 : Int32 → Int32 → Int32 → Int32 → (Nat → Int32) → (Nat → Int32) → (Nat → Int32) → Int32 → Int32 → Int32 → Int32 → Option (Int32 × Int32 × Int32 × Int32 × Int32 × (Nat → Int32) × (Nat → Int32) × (Nat → Int32))) (v_empty : Int32) (v_cut : Int32) (v_at : Int32) (v_stopped : Int32) (v_all : Nat → Int32) (v_box : Nat → Int32) (v_numbers : Nat → Int32) (x1 : Int32) (x2 : Int32) (x3 : Int32) (x4 : Int32) (z1 : Int32) (z2 : Int32) : Option (Int32 × Int32 × Int32 × Int32 × Int32 × (Nat → Int32) × (Nat → Int32) × (Nat → Int32)) :=
  o_b3 (f_X8_takes N v_textLong v_text v_at v_numbers z1 z2) (fun (r49 : Int32) (v_at_49 : Int32) (v_numbers_49 : Nat → Int32) =>
  if r49 = 0 then
    some (0, v_empty, v_cut, v_at_49, v_stopped, v_all, v_box, v_numbers_49)
  else
    k29 v_empty v_cut v_at_49 v_stopped v_all v_box v_numbers_49 x1 x2 x3 (x4 + 1))
set_option maxHeartbeats 4000000 in
set_option maxRecDepth 100000 in
theorem w_X8_readsOrder_B49 {p : Program} {l : Launch} {e : Env} {s : State} {m : MethodId} {args : Array Value} {below : List Frame} {meth : Method} {c : Code} {D : va_G} {cI cM : ClassId} {A : Nat → Prop} {a_this a_this_all a_this_past a_this_refused a_this_box a_this_row a_this_text a_this_numbers a_this_before : Nat} {v_states : Int32} {v_rowMany : Int32} {v_taken : Int32} {v_found : Int32} {N : Nat} {v_textLong : Int32} {v_text : Nat → Int32} {r : Int32} {o_empty : Int32} {o_cut : Int32} {o_at : Int32} {o_stopped : Int32} {o_all : Nat → Int32} {o_box : Nat → Int32} {o_numbers : Nat → Int32} (C0 : g_cx cX8_readsOrder (some .boolean) 5 RX8 wsX8_readsOrder p s m args meth c) (hA : ∀ q, s.heap.size ≤ q → A q) (hK : va_K D vwCl (g_tys cI cM) s) (k29 : Int32 → Int32 → Int32 → Int32 → (Nat → Int32) → (Nat → Int32) → (Nat → Int32) → Int32 → Int32 → Int32 → Int32 → Option (Int32 × Int32 × Int32 × Int32 × Int32 × (Nat → Int32) × (Nat → Int32) × (Nat → Int32))) (hk29 : ∀ (v_empty : Int32) (v_cut : Int32) (v_at : Int32) (v_stopped : Int32) (v_all : Nat → Int32) (v_box : Nat → Int32) (v_numbers : Nat → Int32) (x1 : Int32) (x2 : Int32) (x3 : Int32) (x4 : Int32) (H : Heap) (locs : List Loc) (ls : Array Slot), k29 v_empty v_cut v_at v_stopped v_all v_box v_numbers x1 x2 x3 x4 = some (r, o_empty, o_cut, o_at, o_stopped, o_all, o_box, o_numbers) → va_P D vwCl (ww_X8_readsOrder cI cM a_this a_this_all a_this_past a_this_refused a_this_box a_this_row a_this_text a_this_numbers a_this_before v_states v_empty v_cut v_rowMany v_taken v_found v_textLong v_at v_stopped v_text v_all v_box v_numbers) H → va_D A (ww_X8_readsOrder cI cM a_this a_this_all a_this_past a_this_refused a_this_box a_this_row a_this_text a_this_numbers a_this_before v_states v_empty v_cut v_rowMany v_taken v_found v_textLong v_at v_stopped v_text v_all v_box v_numbers) → va_S A s.heap H locs → lv_has ls 5 [(0, .ref a_this), (1, .int x1), (2, .int x2), (3, .int x3), (4, .int x4)] → W p l e rm_X8_readsOrder s m args below meth c H locs 0 0 (MQ below (g_QI D (g_tys cI cM) A (ww_X8_readsOrder cI cM a_this a_this_all a_this_past a_this_refused a_this_box a_this_row a_this_text a_this_numbers a_this_before v_states o_empty o_cut v_rowMany v_taken v_found v_textLong o_at o_stopped v_text o_all o_box o_numbers) r) args s 0 0 A) (F0 m 29 ls [])) : ∀ (v_empty : Int32) (v_cut : Int32) (v_at : Int32) (v_stopped : Int32) (v_all : Nat → Int32) (v_box : Nat → Int32) (v_numbers : Nat → Int32) (x1 : Int32) (x2 : Int32) (x3 : Int32) (x4 : Int32) (z1 : Int32) (z2 : Int32) (H : Heap) (locs : List Loc) (ls : Array Slot), f_X8_readsOrder_B49 N v_textLong v_text k29 v_empty v_cut v_at v_stopped v_all v_box v_numbers x1 x2 x3 x4 z1 z2 = some (r, o_empty, o_cut, o_at, o_stopped, o_all, o_box, o_numbers) → va_P D vwCl (ww_X8_readsOrder cI cM a_this a_this_all a_this_past a_this_refused a_this_box a_this_row a_this_text a_this_numbers a_this_before v_states v_empty v_cut v_rowMany v_taken v_found v_textLong v_at v_stopped v_text v_all v_box v_numbers) H → va_D A (ww_X8_readsOrder cI cM a_this a_this_all a_this_past a_this_refused a_this_box a_this_row a_this_text a_this_numbers a_this_before v_states v_empty v_cut v_rowMany v_taken v_found v_textLong v_at v_stopped v_text v_all v_box v_numbers) → va_S A s.heap H locs → lv_has ls 5 [(0, .ref a_this), (1, .int x1), (2, .int x2), (3, .int x3), (4, .int x4)] → W p l e rm_X8_readsOrder s m args below meth c H locs 0 0 (MQ below (g_QI D (g_tys cI cM) A (ww_X8_readsOrder cI cM a_this a_this_all a_this_past a_this_refused a_this_box a_this_row a_this_text a_this_numbers a_this_before v_states o_empty o_cut v_rowMany v_taken v_found v_textLong o_at o_stopped v_text o_all o_box o_numbers) r) args s 0 0 A) (F0 m 49 ls [.int z2, .int z1, .ref a_this]) := by
  obtain ⟨hx, hb, hr, hml, hown, hts, hlocks⟩ := id C0
  intro v_empty v_cut v_at v_stopped v_all v_box v_numbers x1 x2 x3 x4 z1 z2 H locs ls hf hP hD hS hl
  unfold f_X8_readsOrder_B49 at hf
  obtain ⟨r49, v_at_49, v_numbers_49, hg49, hf⟩ := o_b3_go hf
  refine g_callVi (wn := (ww_X8_readsOrder cI cM a_this a_this_all a_this_past a_this_refused a_this_box a_this_row a_this_text a_this_numbers a_this_before v_states v_empty v_cut v_rowMany v_taken v_found v_textLong v_at_49 v_stopped v_text v_all v_box v_numbers_49)) (rest := []) ⟨hx, hb, hml, hown, hts⟩ (c_X8_takes l D cI cM a_this a_this_all a_this_past a_this_refused a_this_box a_this_row a_this_text a_this_numbers a_this_before H.size v_states v_empty v_cut v_rowMany v_taken v_found v_textLong v_at v_stopped v_text v_numbers hg49) (cwV 2 hts gX8_readsOrder_X8_takes rfl rfl rfl (by decide +kernel) ⟨Nat.le_of_ble_eq_true rfl, Nat.le_of_ble_eq_true rfl⟩) hK hP hD hS hA [0, 1, 4] [2, 3] [2, 3, 0, 1, 4] rfl rfl rfl rfl rfl rfl (by decide) rfl rfl rfl hl.1 rfl (Nat.le_of_ble_eq_true rfl) dX8_readsOrder_49 (fun H locs hP hD hS => ?_)
  refine lv_if_ne (tgt := 57) hx hb dX8_readsOrder_52 (by decide) (fun c52 => ?_) (fun c52 => ?_)
  · replace hf := o_f c52 hf
    refine lv_iinc (v := x4 + 1) (lv' := [(4, .int (x4 + 1)), (0, .ref a_this), (1, .int x1), (2, .int x2), (3, .int x3)]) hx hb dX8_readsOrder_57 hl (k := 4) rfl rfl (by decide) rfl (fun ls hl => ?_)
    refine lv_goto (tgt := 29) hx hb dX8_readsOrder_60 (by decide) ?_
    exact hk29 v_empty v_cut v_at_49 v_stopped v_all v_box v_numbers_49 x1 x2 x3 (x4 + 1) H locs ls hf hP hD hS (lv_sub hl [1, 2, 3, 4, 0] rfl)
  · replace hf := o_t c52 hf
    refine lv_iconst (v := 0) hx hb dX8_readsOrder_55 (by decide) ?_
    obtain ⟨q0, y0⟩ := o_rp hf
    obtain ⟨q1, y1⟩ := o_rp y0
    obtain ⟨q2, y2⟩ := o_rp y1
    obtain ⟨q3, y3⟩ := o_rp y2
    obtain ⟨q4, y4⟩ := o_rp y3
    obtain ⟨q5, y5⟩ := o_rp y4
    obtain ⟨q6, y6⟩ := o_rp y5
    have q7 := Option.some.inj y6
    subst q0 q1 q2 q3 q4 q5 q6 q7
    exact g_zret hx hb hr hlocks (by decide) hP hD hK hS dX8_readsOrder_56
def f_X8_readsOrder_C29 (N : Nat) (v_textLong : Int32) (v_text : Nat → Int32) (k29 : Int32 → Int32 → Int32 → Int32 → (Nat → Int32) → (Nat → Int32) → (Nat → Int32) → Int32 → Int32 → Int32 → Int32 → Option (Int32 × Int32 × Int32 × Int32 × Int32 × (Nat → Int32) × (Nat → Int32) × (Nat → Int32))) (v_empty : Int32) (v_cut : Int32) (v_at : Int32) (v_stopped : Int32) (v_all : Nat → Int32) (v_box : Nat → Int32) (v_numbers : Nat → Int32) (x1 : Int32) (x2 : Int32) (x3 : Int32) (x4 : Int32) : Option (Int32 × Int32 × Int32 × Int32 × Int32 × (Nat → Int32) × (Nat → Int32) × (Nat → Int32)) :=
  if x3 ≤ x4 then
    o_b2 (f_X8_here N v_textLong v_text v_at) (fun (r64 : Int32) (v_at_64 : Int32) =>
    if r64 = 59 then
      if x1 = 0 then
        some (1, v_empty, v_cut, v_at_64 + 1, v_stopped, v_all, v_box, v_numbers)
      else
        o_b5 (f_X8_does_ N v_numbers v_empty v_cut v_stopped v_all v_box x2) (fun (v_empty_90 : Int32) (v_cut_90 : Int32) (v_stopped_90 : Int32) (v_all_90 : Nat → Int32) (v_box_90 : Nat → Int32) =>
        some (1, v_empty_90, v_cut_90, v_at_64 + 1, v_stopped_90, v_all_90, v_box_90, v_numbers))
    else
      some (0, v_empty, v_cut, v_at_64, v_stopped, v_all, v_box, v_numbers))
  else
    if x2 = 117 then
      f_X8_readsOrder_B49 N v_textLong v_text k29 v_empty v_cut v_at v_stopped v_all v_box v_numbers x1 x2 x3 x4 x4 1
    else
      f_X8_readsOrder_B49 N v_textLong v_text k29 v_empty v_cut v_at v_stopped v_all v_box v_numbers x1 x2 x3 x4 x4 0
def f_X8_readsOrder_L29 (N : Nat) (v_textLong : Int32) (v_text : Nat → Int32) : Nat → Int32 → Int32 → Int32 → Int32 → (Nat → Int32) → (Nat → Int32) → (Nat → Int32) → Int32 → Int32 → Int32 → Int32 → Option (Int32 × Int32 × Int32 × Int32 × Int32 × (Nat → Int32) × (Nat → Int32) × (Nat → Int32))
  | 0 => fun _ _ _ _ _ _ _ _ _ _ _ => none
  | n + 1 => f_X8_readsOrder_C29 N v_textLong v_text (f_X8_readsOrder_L29 N v_textLong v_text n)
set_option maxHeartbeats 4000000 in
set_option maxRecDepth 100000 in
theorem w_X8_readsOrder_C29 {p : Program} {l : Launch} {e : Env} {s : State} {m : MethodId} {args : Array Value} {below : List Frame} {meth : Method} {c : Code} {D : va_G} {cI cM : ClassId} {A : Nat → Prop} {a_this a_this_all a_this_past a_this_refused a_this_box a_this_row a_this_text a_this_numbers a_this_before : Nat} {v_states : Int32} {v_rowMany : Int32} {v_taken : Int32} {v_found : Int32} {N : Nat} {v_textLong : Int32} {v_text : Nat → Int32} {r : Int32} {o_empty : Int32} {o_cut : Int32} {o_at : Int32} {o_stopped : Int32} {o_all : Nat → Int32} {o_box : Nat → Int32} {o_numbers : Nat → Int32} (C0 : g_cx cX8_readsOrder (some .boolean) 5 RX8 wsX8_readsOrder p s m args meth c) (hA : ∀ q, s.heap.size ≤ q → A q) (hK : va_K D vwCl (g_tys cI cM) s) (k29 : Int32 → Int32 → Int32 → Int32 → (Nat → Int32) → (Nat → Int32) → (Nat → Int32) → Int32 → Int32 → Int32 → Int32 → Option (Int32 × Int32 × Int32 × Int32 × Int32 × (Nat → Int32) × (Nat → Int32) × (Nat → Int32))) (hk29 : ∀ (v_empty : Int32) (v_cut : Int32) (v_at : Int32) (v_stopped : Int32) (v_all : Nat → Int32) (v_box : Nat → Int32) (v_numbers : Nat → Int32) (x1 : Int32) (x2 : Int32) (x3 : Int32) (x4 : Int32) (H : Heap) (locs : List Loc) (ls : Array Slot), k29 v_empty v_cut v_at v_stopped v_all v_box v_numbers x1 x2 x3 x4 = some (r, o_empty, o_cut, o_at, o_stopped, o_all, o_box, o_numbers) → va_P D vwCl (ww_X8_readsOrder cI cM a_this a_this_all a_this_past a_this_refused a_this_box a_this_row a_this_text a_this_numbers a_this_before v_states v_empty v_cut v_rowMany v_taken v_found v_textLong v_at v_stopped v_text v_all v_box v_numbers) H → va_D A (ww_X8_readsOrder cI cM a_this a_this_all a_this_past a_this_refused a_this_box a_this_row a_this_text a_this_numbers a_this_before v_states v_empty v_cut v_rowMany v_taken v_found v_textLong v_at v_stopped v_text v_all v_box v_numbers) → va_S A s.heap H locs → lv_has ls 5 [(0, .ref a_this), (1, .int x1), (2, .int x2), (3, .int x3), (4, .int x4)] → W p l e rm_X8_readsOrder s m args below meth c H locs 0 0 (MQ below (g_QI D (g_tys cI cM) A (ww_X8_readsOrder cI cM a_this a_this_all a_this_past a_this_refused a_this_box a_this_row a_this_text a_this_numbers a_this_before v_states o_empty o_cut v_rowMany v_taken v_found v_textLong o_at o_stopped v_text o_all o_box o_numbers) r) args s 0 0 A) (F0 m 29 ls [])) : ∀ (v_empty : Int32) (v_cut : Int32) (v_at : Int32) (v_stopped : Int32) (v_all : Nat → Int32) (v_box : Nat → Int32) (v_numbers : Nat → Int32) (x1 : Int32) (x2 : Int32) (x3 : Int32) (x4 : Int32) (H : Heap) (locs : List Loc) (ls : Array Slot), f_X8_readsOrder_C29 N v_textLong v_text k29 v_empty v_cut v_at v_stopped v_all v_box v_numbers x1 x2 x3 x4 = some (r, o_empty, o_cut, o_at, o_stopped, o_all, o_box, o_numbers) → va_P D vwCl (ww_X8_readsOrder cI cM a_this a_this_all a_this_past a_this_refused a_this_box a_this_row a_this_text a_this_numbers a_this_before v_states v_empty v_cut v_rowMany v_taken v_found v_textLong v_at v_stopped v_text v_all v_box v_numbers) H → va_D A (ww_X8_readsOrder cI cM a_this a_this_all a_this_past a_this_refused a_this_box a_this_row a_this_text a_this_numbers a_this_before v_states v_empty v_cut v_rowMany v_taken v_found v_textLong v_at v_stopped v_text v_all v_box v_numbers) → va_S A s.heap H locs → lv_has ls 5 [(0, .ref a_this), (1, .int x1), (2, .int x2), (3, .int x3), (4, .int x4)] → W p l e rm_X8_readsOrder s m args below meth c H locs 0 0 (MQ below (g_QI D (g_tys cI cM) A (ww_X8_readsOrder cI cM a_this a_this_all a_this_past a_this_refused a_this_box a_this_row a_this_text a_this_numbers a_this_before v_states o_empty o_cut v_rowMany v_taken v_found v_textLong o_at o_stopped v_text o_all o_box o_numbers) r) args s 0 0 A) (F0 m 29 ls []) := by
  obtain ⟨hx, hb, hr, hml, hown, hts, hlocks⟩ := id C0
  intro v_empty v_cut v_at v_stopped v_all v_box v_numbers x1 x2 x3 x4 H locs ls hf hP hD hS hl
  unfold f_X8_readsOrder_C29 at hf
  refine lv_iload hx hb dX8_readsOrder_29 (lv_at hl 4 rfl) ?_
  refine lv_iload_n hx hb dX8_readsOrder_31 rfl (lv_at hl 3 rfl) ?_
  refine lv_icmp_ge (tgt := 63) hx hb dX8_readsOrder_32 (by decide) (fun c32 => ?_) (fun c32 => ?_)
  · replace hf := o_t c32 hf
    refine lv_aload_n hx hb dX8_readsOrder_63 rfl (lv_at hl 0 rfl) ?_
    obtain ⟨r64, v_at_64, hg64, hf⟩ := o_b2_go hf
    refine g_callVi (wn := (ww_X8_readsOrder cI cM a_this a_this_all a_this_past a_this_refused a_this_box a_this_row a_this_text a_this_numbers a_this_before v_states v_empty v_cut v_rowMany v_taken v_found v_textLong v_at_64 v_stopped v_text v_all v_box v_numbers)) (rest := []) ⟨hx, hb, hml, hown, hts⟩ (c_X8_here l D cI cM a_this a_this_all a_this_past a_this_refused a_this_box a_this_row a_this_text a_this_numbers a_this_before H.size v_states v_empty v_cut v_rowMany v_taken v_found v_textLong v_at v_stopped v_text hg64) (cwV 0 hts gX8_readsOrder_X8_here rfl rfl rfl (by decide +kernel) ⟨Nat.le_of_ble_eq_true rfl, Nat.le_of_ble_eq_true rfl⟩) hK hP hD hS hA [0, 1] [2, 3, 4] [3, 4, 0, 1, 2] rfl rfl rfl rfl rfl rfl (by decide) rfl rfl rfl hl.1 rfl (Nat.le_of_ble_eq_true rfl) dX8_readsOrder_64 (fun H locs hP hD hS => ?_)
    refine lv_bipush (v := 59) hx hb dX8_readsOrder_67 (by decide) ?_
    refine lv_icmp_eq (tgt := 74) hx hb dX8_readsOrder_69 (by decide) (fun c69 => ?_) (fun c69 => ?_)
    · replace hf := o_t c69 hf
      refine lv_aload_n hx hb dX8_readsOrder_74 rfl (lv_at hl 0 rfl) ?_
      refine lv_dup hx hb dX8_readsOrder_75 rfl ?_
      refine va_get (D := D) (ci := 6) (v := .int v_at_64) (C := RX8) (T := TX8) (N := 17) hx hb hts (fun _ h => (List.mem_cons_of_mem _ (List.mem_append_right _ h))) hown hK hP 0 rfl rfl 13 (by decide) (hts (.fieldLink RX8 280 "FloatBoxesModel" "at" "I") (List.mem_cons_of_mem _ (List.mem_append_left _ (List.mem_append_left _ (List.mem_of_getElem? (i := 0) rfl))))) (fun _ h9 => h9) rfl dX8_readsOrder_76 ?_
      refine lv_iconst (v := 1) hx hb dX8_readsOrder_79 (by decide) ?_
      refine lv_iadd hx hb dX8_readsOrder_80 ?_
      refine va_put (D := D) (ci := 6) (v := .int (v_at_64 + 1)) (ty := .int) (C := RX8) (T := TX8) (N := 17) hx hb hts (fun _ h => (List.mem_cons_of_mem _ (List.mem_append_right _ h))) tyX8 tyX8_ok nmX8 hown hK hP hD hS 0 rfl rfl 13 (by decide) (hts (.fieldLink RX8 280 "FloatBoxesModel" "at" "I") (List.mem_cons_of_mem _ (List.mem_append_left _ (List.mem_append_left _ (List.mem_of_getElem? (i := 0) rfl))))) (fun _ h9 => h9) rfl (by decide +kernel) rfl rfl (Nat.le_of_ble_eq_true rfl) dX8_readsOrder_81 (fun H locs hP hD hS => ?_)
      replace hP : va_P D vwCl (ww_X8_readsOrder cI cM a_this a_this_all a_this_past a_this_refused a_this_box a_this_row a_this_text a_this_numbers a_this_before v_states v_empty v_cut v_rowMany v_taken v_found v_textLong (v_at_64 + 1) v_stopped v_text v_all v_box v_numbers) H := hP
      replace hD : va_D A (ww_X8_readsOrder cI cM a_this a_this_all a_this_past a_this_refused a_this_box a_this_row a_this_text a_this_numbers a_this_before v_states v_empty v_cut v_rowMany v_taken v_found v_textLong (v_at_64 + 1) v_stopped v_text v_all v_box v_numbers) := hD
      refine lv_iload_n hx hb dX8_readsOrder_84 rfl (lv_at hl 1 rfl) ?_
      refine lv_if_eq (tgt := 93) hx hb dX8_readsOrder_85 (by decide) (fun c85 => ?_) (fun c85 => ?_)
      · replace hf := o_t c85 hf
        refine lv_iconst (v := 1) hx hb dX8_readsOrder_93 (by decide) ?_
        obtain ⟨q0, y0⟩ := o_rp hf
        obtain ⟨q1, y1⟩ := o_rp y0
        obtain ⟨q2, y2⟩ := o_rp y1
        obtain ⟨q3, y3⟩ := o_rp y2
        obtain ⟨q4, y4⟩ := o_rp y3
        obtain ⟨q5, y5⟩ := o_rp y4
        obtain ⟨q6, y6⟩ := o_rp y5
        have q7 := Option.some.inj y6
        subst q0 q1 q2 q3 q4 q5 q6 q7
        exact g_zret hx hb hr hlocks (by decide) hP hD hK hS dX8_readsOrder_94
      · replace hf := o_f c85 hf
        refine lv_aload_n hx hb dX8_readsOrder_88 rfl (lv_at hl 0 rfl) ?_
        refine lv_iload_n hx hb dX8_readsOrder_89 rfl (lv_at hl 2 rfl) ?_
        obtain ⟨v_empty_90, v_cut_90, v_stopped_90, v_all_90, v_box_90, hg90, hf⟩ := o_b5_go hf
        refine g_callVv (wn := (ww_X8_readsOrder cI cM a_this a_this_all a_this_past a_this_refused a_this_box a_this_row a_this_text a_this_numbers a_this_before v_states v_empty_90 v_cut_90 v_rowMany v_taken v_found v_textLong (v_at_64 + 1) v_stopped_90 v_text v_all_90 v_box_90 v_numbers)) (rest := []) ⟨hx, hb, hml, hown, hts⟩ (c_X8_does_ l D cI cM a_this a_this_all a_this_past a_this_refused a_this_box a_this_row a_this_text a_this_numbers a_this_before H.size v_states v_empty v_cut v_rowMany v_taken v_found v_textLong (v_at_64 + 1) v_stopped v_all v_box v_numbers hg90) (cwV 1 hts gX8_readsOrder_X8_does_ rfl rfl rfl (by decide +kernel) ⟨Nat.le_of_ble_eq_true rfl, Nat.le_of_ble_eq_true rfl⟩) hK hP hD hS hA [0, 2, 3, 4] [1] [1, 0, 2, 3, 4] rfl rfl rfl rfl rfl rfl (by decide) rfl rfl rfl hl.1 rfl (Nat.le_of_ble_eq_true rfl) dX8_readsOrder_90 (fun H locs hP hD hS => ?_)
        refine lv_iconst (v := 1) hx hb dX8_readsOrder_93 (by decide) ?_
        obtain ⟨q0, y0⟩ := o_rp hf
        obtain ⟨q1, y1⟩ := o_rp y0
        obtain ⟨q2, y2⟩ := o_rp y1
        obtain ⟨q3, y3⟩ := o_rp y2
        obtain ⟨q4, y4⟩ := o_rp y3
        obtain ⟨q5, y5⟩ := o_rp y4
        obtain ⟨q6, y6⟩ := o_rp y5
        have q7 := Option.some.inj y6
        subst q0 q1 q2 q3 q4 q5 q6 q7
        exact g_zret hx hb hr hlocks (by decide) hP hD hK hS dX8_readsOrder_94
    · replace hf := o_f c69 hf
      refine lv_iconst (v := 0) hx hb dX8_readsOrder_72 (by decide) ?_
      obtain ⟨q0, y0⟩ := o_rp hf
      obtain ⟨q1, y1⟩ := o_rp y0
      obtain ⟨q2, y2⟩ := o_rp y1
      obtain ⟨q3, y3⟩ := o_rp y2
      obtain ⟨q4, y4⟩ := o_rp y3
      obtain ⟨q5, y5⟩ := o_rp y4
      obtain ⟨q6, y6⟩ := o_rp y5
      have q7 := Option.some.inj y6
      subst q0 q1 q2 q3 q4 q5 q6 q7
      exact g_zret hx hb hr hlocks (by decide) hP hD hK hS dX8_readsOrder_73
  · replace hf := o_f c32 hf
    refine lv_aload_n hx hb dX8_readsOrder_35 rfl (lv_at hl 0 rfl) ?_
    refine lv_iload hx hb dX8_readsOrder_36 (lv_at hl 4 rfl) ?_
    refine lv_iload_n hx hb dX8_readsOrder_38 rfl (lv_at hl 2 rfl) ?_
    refine lv_bipush (v := 117) hx hb dX8_readsOrder_39 (by decide) ?_
    refine lv_icmp_ne (tgt := 48) hx hb dX8_readsOrder_41 (by decide) (fun c41 => ?_) (fun c41 => ?_)
    · replace hf := o_f c41 hf
      refine lv_iconst (v := 0) hx hb dX8_readsOrder_48 (by decide) ?_
      exact w_X8_readsOrder_B49 C0 hA hK k29 hk29 v_empty v_cut v_at v_stopped v_all v_box v_numbers x1 x2 x3 x4 x4 0 H locs ls hf hP hD hS (lv_sub hl [0, 1, 2, 3, 4] rfl)
    · replace hf := o_t c41 hf
      refine lv_iconst (v := 1) hx hb dX8_readsOrder_44 (by decide) ?_
      refine lv_goto (tgt := 49) hx hb dX8_readsOrder_45 (by decide) ?_
      exact w_X8_readsOrder_B49 C0 hA hK k29 hk29 v_empty v_cut v_at v_stopped v_all v_box v_numbers x1 x2 x3 x4 x4 1 H locs ls hf hP hD hS (lv_sub hl [0, 1, 2, 3, 4] rfl)
set_option maxHeartbeats 4000000 in
set_option maxRecDepth 100000 in
theorem w_X8_readsOrder_L29 {p : Program} {l : Launch} {e : Env} {s : State} {m : MethodId} {args : Array Value} {below : List Frame} {meth : Method} {c : Code} {D : va_G} {cI cM : ClassId} {A : Nat → Prop} {a_this a_this_all a_this_past a_this_refused a_this_box a_this_row a_this_text a_this_numbers a_this_before : Nat} {v_states : Int32} {v_rowMany : Int32} {v_taken : Int32} {v_found : Int32} {N : Nat} {v_textLong : Int32} {v_text : Nat → Int32} {r : Int32} {o_empty : Int32} {o_cut : Int32} {o_at : Int32} {o_stopped : Int32} {o_all : Nat → Int32} {o_box : Nat → Int32} {o_numbers : Nat → Int32} (C0 : g_cx cX8_readsOrder (some .boolean) 5 RX8 wsX8_readsOrder p s m args meth c) (hA : ∀ q, s.heap.size ≤ q → A q) (hK : va_K D vwCl (g_tys cI cM) s) : ∀ n : Nat, ∀ (v_empty : Int32) (v_cut : Int32) (v_at : Int32) (v_stopped : Int32) (v_all : Nat → Int32) (v_box : Nat → Int32) (v_numbers : Nat → Int32) (x1 : Int32) (x2 : Int32) (x3 : Int32) (x4 : Int32) (H : Heap) (locs : List Loc) (ls : Array Slot), f_X8_readsOrder_L29 N v_textLong v_text n v_empty v_cut v_at v_stopped v_all v_box v_numbers x1 x2 x3 x4 = some (r, o_empty, o_cut, o_at, o_stopped, o_all, o_box, o_numbers) → va_P D vwCl (ww_X8_readsOrder cI cM a_this a_this_all a_this_past a_this_refused a_this_box a_this_row a_this_text a_this_numbers a_this_before v_states v_empty v_cut v_rowMany v_taken v_found v_textLong v_at v_stopped v_text v_all v_box v_numbers) H → va_D A (ww_X8_readsOrder cI cM a_this a_this_all a_this_past a_this_refused a_this_box a_this_row a_this_text a_this_numbers a_this_before v_states v_empty v_cut v_rowMany v_taken v_found v_textLong v_at v_stopped v_text v_all v_box v_numbers) → va_S A s.heap H locs → lv_has ls 5 [(0, .ref a_this), (1, .int x1), (2, .int x2), (3, .int x3), (4, .int x4)] → W p l e rm_X8_readsOrder s m args below meth c H locs 0 0 (MQ below (g_QI D (g_tys cI cM) A (ww_X8_readsOrder cI cM a_this a_this_all a_this_past a_this_refused a_this_box a_this_row a_this_text a_this_numbers a_this_before v_states o_empty o_cut v_rowMany v_taken v_found v_textLong o_at o_stopped v_text o_all o_box o_numbers) r) args s 0 0 A) (F0 m 29 ls []) := by
  intro n
  induction n with
  | zero =>
    intro v_empty v_cut v_at v_stopped v_all v_box v_numbers x1 x2 x3 x4 H locs ls hf
    exact absurd hf (fun h => nomatch h)
  | succ n ih =>
    intro v_empty v_cut v_at v_stopped v_all v_box v_numbers x1 x2 x3 x4 H locs ls hf
    exact w_X8_readsOrder_C29 C0 hA hK _ ih v_empty v_cut v_at v_stopped v_all v_box v_numbers x1 x2 x3 x4 H locs ls hf
def f_X8_readsOrder (N : Nat) (v_textLong : Int32) (v_text : Nat → Int32) (v_empty : Int32) (v_cut : Int32) (v_at : Int32) (v_stopped : Int32) (v_all : Nat → Int32) (v_box : Nat → Int32) (v_numbers : Nat → Int32) (x1 : Int32) : Option (Int32 × Int32 × Int32 × Int32 × Int32 × (Nat → Int32) × (Nat → Int32) × (Nat → Int32)) :=
  o_b2 (f_X8_here N v_textLong v_text v_at) (fun (r1 : Int32) (v_at_1 : Int32) =>
  o_b1 (f_X8_numbersOf r1) (fun (r6 : Int32) =>
  if 0 ≤ r6 then
    f_X8_readsOrder_L29 N v_textLong v_text N v_empty v_cut (v_at_1 + 1) v_stopped v_all v_box v_numbers x1 r1 r6 0
  else
    some (0, v_empty, v_cut, v_at_1, v_stopped, v_all, v_box, v_numbers)))
set_option maxHeartbeats 4000000 in
set_option maxRecDepth 100000 in
theorem w_X8_readsOrder_B0 {p : Program} {l : Launch} {e : Env} {s : State} {m : MethodId} {args : Array Value} {below : List Frame} {meth : Method} {c : Code} {D : va_G} {cI cM : ClassId} {A : Nat → Prop} {a_this a_this_all a_this_past a_this_refused a_this_box a_this_row a_this_text a_this_numbers a_this_before : Nat} {v_states : Int32} {v_rowMany : Int32} {v_taken : Int32} {v_found : Int32} {N : Nat} {v_textLong : Int32} {v_text : Nat → Int32} {r : Int32} {o_empty : Int32} {o_cut : Int32} {o_at : Int32} {o_stopped : Int32} {o_all : Nat → Int32} {o_box : Nat → Int32} {o_numbers : Nat → Int32} (C0 : g_cx cX8_readsOrder (some .boolean) 5 RX8 wsX8_readsOrder p s m args meth c) (hA : ∀ q, s.heap.size ≤ q → A q) (hK : va_K D vwCl (g_tys cI cM) s) : ∀ (v_empty : Int32) (v_cut : Int32) (v_at : Int32) (v_stopped : Int32) (v_all : Nat → Int32) (v_box : Nat → Int32) (v_numbers : Nat → Int32) (x1 : Int32) (H : Heap) (locs : List Loc) (ls : Array Slot), f_X8_readsOrder N v_textLong v_text v_empty v_cut v_at v_stopped v_all v_box v_numbers x1 = some (r, o_empty, o_cut, o_at, o_stopped, o_all, o_box, o_numbers) → va_P D vwCl (ww_X8_readsOrder cI cM a_this a_this_all a_this_past a_this_refused a_this_box a_this_row a_this_text a_this_numbers a_this_before v_states v_empty v_cut v_rowMany v_taken v_found v_textLong v_at v_stopped v_text v_all v_box v_numbers) H → va_D A (ww_X8_readsOrder cI cM a_this a_this_all a_this_past a_this_refused a_this_box a_this_row a_this_text a_this_numbers a_this_before v_states v_empty v_cut v_rowMany v_taken v_found v_textLong v_at v_stopped v_text v_all v_box v_numbers) → va_S A s.heap H locs → lv_has ls 5 [(0, .ref a_this), (1, .int x1)] → W p l e rm_X8_readsOrder s m args below meth c H locs 0 0 (MQ below (g_QI D (g_tys cI cM) A (ww_X8_readsOrder cI cM a_this a_this_all a_this_past a_this_refused a_this_box a_this_row a_this_text a_this_numbers a_this_before v_states o_empty o_cut v_rowMany v_taken v_found v_textLong o_at o_stopped v_text o_all o_box o_numbers) r) args s 0 0 A) (F0 m 0 ls []) := by
  obtain ⟨hx, hb, hr, hml, hown, hts, hlocks⟩ := id C0
  intro v_empty v_cut v_at v_stopped v_all v_box v_numbers x1 H locs ls hf hP hD hS hl
  unfold f_X8_readsOrder at hf
  refine lv_aload_n hx hb dX8_readsOrder_0 rfl (lv_at hl 0 rfl) ?_
  obtain ⟨r1, v_at_1, hg1, hf⟩ := o_b2_go hf
  refine g_callVi (wn := (ww_X8_readsOrder cI cM a_this a_this_all a_this_past a_this_refused a_this_box a_this_row a_this_text a_this_numbers a_this_before v_states v_empty v_cut v_rowMany v_taken v_found v_textLong v_at_1 v_stopped v_text v_all v_box v_numbers)) (rest := []) ⟨hx, hb, hml, hown, hts⟩ (c_X8_here l D cI cM a_this a_this_all a_this_past a_this_refused a_this_box a_this_row a_this_text a_this_numbers a_this_before H.size v_states v_empty v_cut v_rowMany v_taken v_found v_textLong v_at v_stopped v_text hg1) (cwV 0 hts gX8_readsOrder_X8_here rfl rfl rfl (by decide +kernel) ⟨Nat.le_of_ble_eq_true rfl, Nat.le_of_ble_eq_true rfl⟩) hK hP hD hS hA [0, 1] [2, 3, 4] [3, 4, 0, 1, 2] rfl rfl rfl rfl rfl rfl (by decide) rfl rfl rfl hl.1 rfl (Nat.le_of_ble_eq_true rfl) dX8_readsOrder_1 (fun H locs hP hD hS => ?_)
  refine lv_istore_n (lv' := [(2, .int r1), (0, .ref a_this), (1, .int x1)]) hx hb dX8_readsOrder_4 rfl hl (by decide) rfl (fun ls hl => ?_)
  refine lv_iload_n hx hb dX8_readsOrder_5 rfl (lv_at hl 0 rfl) ?_
  obtain ⟨r6, hg6, hf⟩ := o_b1_go hf
  refine g_callSi (rest := []) ⟨hx, hb, hml, hown, hts⟩ (c_X8_numbersOf l hg6) (va_cwS 1 hts gX8_readsOrder_X8_numbersOf rfl rfl rfl (by decide +kernel) ⟨Nat.le_of_ble_eq_true rfl, Nat.le_of_ble_eq_true rfl⟩) rfl hl.1 rfl (Nat.le_of_ble_eq_true rfl) dX8_readsOrder_6 ?_
  refine lv_istore_n (lv' := [(3, .int r6), (2, .int r1), (0, .ref a_this), (1, .int x1)]) hx hb dX8_readsOrder_9 rfl hl (by decide) rfl (fun ls hl => ?_)
  refine lv_iload_n hx hb dX8_readsOrder_10 rfl (lv_at hl 0 rfl) ?_
  refine lv_if_ge (tgt := 16) hx hb dX8_readsOrder_11 (by decide) (fun c11 => ?_) (fun c11 => ?_)
  · replace hf := o_t c11 hf
    refine lv_aload_n hx hb dX8_readsOrder_16 rfl (lv_at hl 2 rfl) ?_
    refine lv_dup hx hb dX8_readsOrder_17 rfl ?_
    refine va_get (D := D) (ci := 6) (v := .int v_at_1) (C := RX8) (T := TX8) (N := 17) hx hb hts (fun _ h => (List.mem_cons_of_mem _ (List.mem_append_right _ h))) hown hK hP 0 rfl rfl 13 (by decide) (hts (.fieldLink RX8 280 "FloatBoxesModel" "at" "I") (List.mem_cons_of_mem _ (List.mem_append_left _ (List.mem_append_left _ (List.mem_of_getElem? (i := 0) rfl))))) (fun _ h9 => h9) rfl dX8_readsOrder_18 ?_
    refine lv_iconst (v := 1) hx hb dX8_readsOrder_21 (by decide) ?_
    refine lv_iadd hx hb dX8_readsOrder_22 ?_
    refine va_put (D := D) (ci := 6) (v := .int (v_at_1 + 1)) (ty := .int) (C := RX8) (T := TX8) (N := 17) hx hb hts (fun _ h => (List.mem_cons_of_mem _ (List.mem_append_right _ h))) tyX8 tyX8_ok nmX8 hown hK hP hD hS 0 rfl rfl 13 (by decide) (hts (.fieldLink RX8 280 "FloatBoxesModel" "at" "I") (List.mem_cons_of_mem _ (List.mem_append_left _ (List.mem_append_left _ (List.mem_of_getElem? (i := 0) rfl))))) (fun _ h9 => h9) rfl (by decide +kernel) rfl rfl (Nat.le_of_ble_eq_true rfl) dX8_readsOrder_23 (fun H locs hP hD hS => ?_)
    replace hP : va_P D vwCl (ww_X8_readsOrder cI cM a_this a_this_all a_this_past a_this_refused a_this_box a_this_row a_this_text a_this_numbers a_this_before v_states v_empty v_cut v_rowMany v_taken v_found v_textLong (v_at_1 + 1) v_stopped v_text v_all v_box v_numbers) H := hP
    replace hD : va_D A (ww_X8_readsOrder cI cM a_this a_this_all a_this_past a_this_refused a_this_box a_this_row a_this_text a_this_numbers a_this_before v_states v_empty v_cut v_rowMany v_taken v_found v_textLong (v_at_1 + 1) v_stopped v_text v_all v_box v_numbers) := hD
    refine lv_iconst (v := 0) hx hb dX8_readsOrder_26 (by decide) ?_
    refine lv_istore (lv' := [(4, .int 0), (3, .int r6), (2, .int r1), (0, .ref a_this), (1, .int x1)]) hx hb dX8_readsOrder_27 hl (by decide) rfl (fun ls hl => ?_)
    exact w_X8_readsOrder_L29 C0 hA hK N v_empty v_cut (v_at_1 + 1) v_stopped v_all v_box v_numbers x1 r1 r6 0 H locs ls hf hP hD hS (lv_sub hl [3, 4, 2, 1, 0] rfl)
  · replace hf := o_f c11 hf
    refine lv_iconst (v := 0) hx hb dX8_readsOrder_14 (by decide) ?_
    obtain ⟨q0, y0⟩ := o_rp hf
    obtain ⟨q1, y1⟩ := o_rp y0
    obtain ⟨q2, y2⟩ := o_rp y1
    obtain ⟨q3, y3⟩ := o_rp y2
    obtain ⟨q4, y4⟩ := o_rp y3
    obtain ⟨q5, y5⟩ := o_rp y4
    obtain ⟨q6, y6⟩ := o_rp y5
    have q7 := Option.some.inj y6
    subst q0 q1 q2 q3 q4 q5 q6 q7
    exact g_zret hx hb hr hlocks (by decide) hP hD hK hS dX8_readsOrder_15
set_option maxHeartbeats 4000000 in
set_option maxRecDepth 100000 in
theorem c_X8_readsOrder (l : Launch) (D : va_G) (cI cM : ClassId) (a_this a_this_all a_this_past a_this_refused a_this_box a_this_row a_this_text a_this_numbers a_this_before : Nat) (sz : Nat) (v_states : Int32) (v_empty : Int32) (v_cut : Int32) (v_rowMany : Int32) (v_taken : Int32) (v_found : Int32) (v_textLong : Int32) (v_at : Int32) (v_stopped : Int32) (v_text : Nat → Int32) (v_all : Nat → Int32) (v_box : Nat → Int32) (v_numbers : Nat → Int32) {N : Nat} {x1 : Int32} {r : Int32} {o_empty : Int32} {o_cut : Int32} {o_at : Int32} {o_stopped : Int32} {o_all : Nat → Int32} {o_box : Nat → Int32} {o_numbers : Nat → Int32} (hf : f_X8_readsOrder N v_textLong v_text v_empty v_cut v_at v_stopped v_all v_box v_numbers x1 = some (r, o_empty, o_cut, o_at, o_stopped, o_all, o_box, o_numbers)) : Met l yX8_readsOrder wsX8_readsOrder rm_X8_readsOrder (g_Pc D (g_tys cI cM) (ww_X8_readsOrder cI cM a_this a_this_all a_this_past a_this_refused a_this_box a_this_row a_this_text a_this_numbers a_this_before v_states v_empty v_cut v_rowMany v_taken v_found v_textLong v_at v_stopped v_text v_all v_box v_numbers) sz [.ref a_this, .int x1]) (g_QI D (g_tys cI cM) (va_A (ww_X8_readsOrder cI cM a_this a_this_all a_this_past a_this_refused a_this_box a_this_row a_this_text a_this_numbers a_this_before v_states v_empty v_cut v_rowMany v_taken v_found v_textLong v_at v_stopped v_text v_all v_box v_numbers) sz) (ww_X8_readsOrder cI cM a_this a_this_all a_this_past a_this_refused a_this_box a_this_row a_this_text a_this_numbers a_this_before v_states o_empty o_cut v_rowMany v_taken v_found v_textLong o_at o_stopped v_text o_all o_box o_numbers) r) 0 0 (va_A (ww_X8_readsOrder cI cM a_this a_this_all a_this_past a_this_refused a_this_box a_this_row a_this_text a_this_numbers a_this_before v_states v_empty v_cut v_rowMany v_taken v_found v_textLong v_at v_stopped v_text v_all v_box v_numbers) sz) := by
  refine g_met (cc := cX8_readsOrder) (maxL := 5) (ret := (some .boolean)) (Qc := fun D A => g_QI D (g_tys cI cM) A (ww_X8_readsOrder cI cM a_this a_this_all a_this_past a_this_refused a_this_box a_this_row a_this_text a_this_numbers a_this_before v_states o_empty o_cut v_rowMany v_taken v_found v_textLong o_at o_stopped v_text o_all o_box o_numbers) r) (by decide) rfl ?_
  intro p e s m below meth c A C0 hA hK hP hD
  have hl := lv_entry ([.ref a_this, .int x1]) (n := 5) (Nat.le_of_ble_eq_true rfl)
  rw [lg_entry_eq]
  generalize (lg_sl ([.ref a_this, .int x1]) ++ List.replicate (5 - (lg_sl ([.ref a_this, .int x1])).length) Slot.unset).toArray = ls at hl ⊢
  have hl : lv_has ls 5 [(0, .ref a_this), (1, .int x1)] := hl
  exact w_X8_readsOrder_B0 C0 hA hK v_empty v_cut v_at v_stopped v_all v_box v_numbers x1 s.heap [] ls hf hP hD va_S.rf (lv_sub hl [0, 1] rfl)
