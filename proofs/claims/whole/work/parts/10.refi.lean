/-! FloatBoxesModel.swaps()V -/
abbrev rm_X8_swaps : Room := { frames := 0, cells := 0, slots := 0, locals := 0 }
abbrev ww_X8_swaps (cI cM : ClassId) (a_this a_this_all a_this_past a_this_refused a_this_box a_this_row a_this_text a_this_numbers a_this_before : Nat) (v_states : Int32) (v_empty : Int32) (v_cut : Int32) (v_rowMany : Int32) (v_taken : Int32) (v_found : Int32) (v_textLong : Int32) (v_at : Int32) (v_stopped : Int32) (v_all : Nat → Int32) (v_before : Nat → Int32) : va_W := [(a_this, .inr (6, [.ref a_this_all, .ref a_this_past, .int v_states, .ref a_this_refused, .ref a_this_box, .int v_empty, .int v_cut, .ref a_this_row, .int v_rowMany, .int v_taken, .int v_found, .ref a_this_text, .int v_textLong, .int v_at, .ref a_this_numbers, .int v_stopped, .ref a_this_before])), (a_this_all, .inl (cI, 38, .inl v_all)), (a_this_before, .inl (cI, 38, .inl v_before))]
def f_X8_swaps_C2 (N : Nat) (k2 : (Nat → Int32) → (Nat → Int32) → Int32 → Option ((Nat → Int32) × (Nat → Int32))) (v_all : Nat → Int32) (v_before : Nat → Int32) (x1 : Int32) : Option ((Nat → Int32) × (Nat → Int32)) :=
  if 38 ≤ x1 then
    some (v_all, v_before)
  else
    o_in x1 38 (
    o_nm (v_all x1.toNatClampNeg) (fun (t14 : Int32) =>
    o_in x1 38 (
    o_in x1 38 (
    o_in x1 38 (
    k2 (upd v_all x1.toNatClampNeg (v_before x1.toNatClampNeg)) (upd v_before x1.toNatClampNeg t14) (x1 + 1))))))
def f_X8_swaps_L2 (N : Nat) : Nat → (Nat → Int32) → (Nat → Int32) → Int32 → Option ((Nat → Int32) × (Nat → Int32))
  | 0 => fun _ _ _ => none
  | n + 1 => f_X8_swaps_C2 N (f_X8_swaps_L2 N n)
set_option maxHeartbeats 4000000 in
set_option maxRecDepth 100000 in
theorem w_X8_swaps_C2 {p : Program} {l : Launch} {e : Env} {s : State} {m : MethodId} {args : Array Value} {below : List Frame} {meth : Method} {c : Code} {D : va_G} {cI cM : ClassId} {A : Nat → Prop} {a_this a_this_all a_this_past a_this_refused a_this_box a_this_row a_this_text a_this_numbers a_this_before : Nat} {v_states : Int32} {v_empty : Int32} {v_cut : Int32} {v_rowMany : Int32} {v_taken : Int32} {v_found : Int32} {v_textLong : Int32} {v_at : Int32} {v_stopped : Int32} {N : Nat} {o_all : Nat → Int32} {o_before : Nat → Int32} (C0 : g_cx cX8_swaps none 3 RX8 wsX8_swaps p s m args meth c) (hA : ∀ q, s.heap.size ≤ q → A q) (hK : va_K D vwCl (g_tys cI cM) s) (k2 : (Nat → Int32) → (Nat → Int32) → Int32 → Option ((Nat → Int32) × (Nat → Int32))) (hk2 : ∀ (v_all : Nat → Int32) (v_before : Nat → Int32) (x1 : Int32) (H : Heap) (locs : List Loc) (ls : Array Slot), k2 v_all v_before x1 = some (o_all, o_before) → va_P D vwCl (ww_X8_swaps cI cM a_this a_this_all a_this_past a_this_refused a_this_box a_this_row a_this_text a_this_numbers a_this_before v_states v_empty v_cut v_rowMany v_taken v_found v_textLong v_at v_stopped v_all v_before) H → va_D A (ww_X8_swaps cI cM a_this a_this_all a_this_past a_this_refused a_this_box a_this_row a_this_text a_this_numbers a_this_before v_states v_empty v_cut v_rowMany v_taken v_found v_textLong v_at v_stopped v_all v_before) → va_S A s.heap H locs → lv_has ls 3 [(0, .ref a_this), (1, .int x1)] → W p l e rm_X8_swaps s m args below meth c H locs 0 0 (MQ below (g_QV D (g_tys cI cM) A (ww_X8_swaps cI cM a_this a_this_all a_this_past a_this_refused a_this_box a_this_row a_this_text a_this_numbers a_this_before v_states v_empty v_cut v_rowMany v_taken v_found v_textLong v_at v_stopped o_all o_before)) args s 0 0 A) (F0 m 2 ls [])) : ∀ (v_all : Nat → Int32) (v_before : Nat → Int32) (x1 : Int32) (H : Heap) (locs : List Loc) (ls : Array Slot), f_X8_swaps_C2 N k2 v_all v_before x1 = some (o_all, o_before) → va_P D vwCl (ww_X8_swaps cI cM a_this a_this_all a_this_past a_this_refused a_this_box a_this_row a_this_text a_this_numbers a_this_before v_states v_empty v_cut v_rowMany v_taken v_found v_textLong v_at v_stopped v_all v_before) H → va_D A (ww_X8_swaps cI cM a_this a_this_all a_this_past a_this_refused a_this_box a_this_row a_this_text a_this_numbers a_this_before v_states v_empty v_cut v_rowMany v_taken v_found v_textLong v_at v_stopped v_all v_before) → va_S A s.heap H locs → lv_has ls 3 [(0, .ref a_this), (1, .int x1)] → W p l e rm_X8_swaps s m args below meth c H locs 0 0 (MQ below (g_QV D (g_tys cI cM) A (ww_X8_swaps cI cM a_this a_this_all a_this_past a_this_refused a_this_box a_this_row a_this_text a_this_numbers a_this_before v_states v_empty v_cut v_rowMany v_taken v_found v_textLong v_at v_stopped o_all o_before)) args s 0 0 A) (F0 m 2 ls []) := by
  obtain ⟨hx, hb, hr, hml, hown, hts, hlocks⟩ := id C0
  intro v_all v_before x1 H locs ls hf hP hD hS hl
  unfold f_X8_swaps_C2 at hf
  refine lv_iload_n hx hb dX8_swaps_2 rfl (lv_at hl 1 rfl) ?_
  refine lv_bipush (v := 38) hx hb dX8_swaps_3 (by decide) ?_
  refine lv_icmp_ge (tgt := 40) hx hb dX8_swaps_5 (by decide) (fun c5 => ?_) (fun c5 => ?_)
  · replace hf := o_t c5 hf
    obtain ⟨q0, y0⟩ := o_rp hf
    have q1 := Option.some.inj y0
    subst q0 q1
    exact g_vret hx hb hr hlocks hP hD hK hS dX8_swaps_40
  · replace hf := o_f c5 hf
    refine lv_aload_n hx hb dX8_swaps_8 rfl (lv_at hl 0 rfl) ?_
    refine va_get (D := D) (ci := 6) (v := .ref a_this_all) (C := RX8) (T := TX8) (N := 17) hx hb hts (fun _ h => (List.mem_cons_of_mem _ (List.mem_append_right _ h))) hown hK hP 0 rfl rfl 0 (by decide) (hts (.fieldLink RX8 7 "FloatBoxesModel" "all" "[I") (List.mem_cons_of_mem _ (List.mem_append_left _ (List.mem_of_getElem? (i := 0) rfl)))) (fun _ h9 => h9) rfl dX8_swaps_9 ?_
    refine lv_iload_n hx hb dX8_swaps_12 rfl (lv_at hl 1 rfl) ?_
    obtain ⟨h13, hf⟩ := o_in_go hf
    refine va_iald hx hb hK hP 1 0 rfl rfl h13 dX8_swaps_13 ?_
    refine lv_topi (fun t14 et14 => ?_)
    replace hf := o_nm_go et14 hf
    refine lv_istore_n (lv' := [(2, .int t14), (0, .ref a_this), (1, .int x1)]) hx hb dX8_swaps_14 rfl hl (by decide) rfl (fun ls hl => ?_)
    refine lv_aload_n hx hb dX8_swaps_15 rfl (lv_at hl 1 rfl) ?_
    refine va_get (D := D) (ci := 6) (v := .ref a_this_all) (C := RX8) (T := TX8) (N := 17) hx hb hts (fun _ h => (List.mem_cons_of_mem _ (List.mem_append_right _ h))) hown hK hP 0 rfl rfl 0 (by decide) (hts (.fieldLink RX8 7 "FloatBoxesModel" "all" "[I") (List.mem_cons_of_mem _ (List.mem_append_left _ (List.mem_of_getElem? (i := 0) rfl)))) (fun _ h9 => h9) rfl dX8_swaps_16 ?_
    refine lv_iload_n hx hb dX8_swaps_19 rfl (lv_at hl 2 rfl) ?_
    refine lv_aload_n hx hb dX8_swaps_20 rfl (lv_at hl 1 rfl) ?_
    refine va_get (D := D) (ci := 6) (v := .ref a_this_before) (C := RX8) (T := TX8) (N := 17) hx hb hts (fun _ h => (List.mem_cons_of_mem _ (List.mem_append_right _ h))) hown hK hP 0 rfl rfl 16 (by decide) (hts (.fieldLink RX8 31 "FloatBoxesModel" "before" "[I") (List.mem_cons_of_mem _ (List.mem_append_left _ (List.mem_of_getElem? (i := 1) rfl)))) (fun _ h9 => h9) rfl dX8_swaps_21 ?_
    refine lv_iload_n hx hb dX8_swaps_24 rfl (lv_at hl 2 rfl) ?_
    obtain ⟨h25, hf⟩ := o_in_go hf
    refine va_iald hx hb hK hP 2 0 rfl rfl h25 dX8_swaps_25 ?_
    obtain ⟨h26, hf⟩ := o_in_go hf
    refine va_iast hx hb hK hP hD hS 1 0 rfl rfl h26 dX8_swaps_26 (fun H locs hP hD hS => ?_)
    replace hP : va_P D vwCl (ww_X8_swaps cI cM a_this a_this_all a_this_past a_this_refused a_this_box a_this_row a_this_text a_this_numbers a_this_before v_states v_empty v_cut v_rowMany v_taken v_found v_textLong v_at v_stopped (upd v_all x1.toNatClampNeg (v_before x1.toNatClampNeg)) v_before) H := hP
    replace hD : va_D A (ww_X8_swaps cI cM a_this a_this_all a_this_past a_this_refused a_this_box a_this_row a_this_text a_this_numbers a_this_before v_states v_empty v_cut v_rowMany v_taken v_found v_textLong v_at v_stopped (upd v_all x1.toNatClampNeg (v_before x1.toNatClampNeg)) v_before) := hD
    refine lv_aload_n hx hb dX8_swaps_27 rfl (lv_at hl 1 rfl) ?_
    refine va_get (D := D) (ci := 6) (v := .ref a_this_before) (C := RX8) (T := TX8) (N := 17) hx hb hts (fun _ h => (List.mem_cons_of_mem _ (List.mem_append_right _ h))) hown hK hP 0 rfl rfl 16 (by decide) (hts (.fieldLink RX8 31 "FloatBoxesModel" "before" "[I") (List.mem_cons_of_mem _ (List.mem_append_left _ (List.mem_of_getElem? (i := 1) rfl)))) (fun _ h9 => h9) rfl dX8_swaps_28 ?_
    refine lv_iload_n hx hb dX8_swaps_31 rfl (lv_at hl 2 rfl) ?_
    refine lv_iload_n hx hb dX8_swaps_32 rfl (lv_at hl 0 rfl) ?_
    obtain ⟨h33, hf⟩ := o_in_go hf
    refine va_iast hx hb hK hP hD hS 2 0 rfl rfl h33 dX8_swaps_33 (fun H locs hP hD hS => ?_)
    replace hP : va_P D vwCl (ww_X8_swaps cI cM a_this a_this_all a_this_past a_this_refused a_this_box a_this_row a_this_text a_this_numbers a_this_before v_states v_empty v_cut v_rowMany v_taken v_found v_textLong v_at v_stopped (upd v_all x1.toNatClampNeg (v_before x1.toNatClampNeg)) (upd v_before x1.toNatClampNeg t14)) H := hP
    replace hD : va_D A (ww_X8_swaps cI cM a_this a_this_all a_this_past a_this_refused a_this_box a_this_row a_this_text a_this_numbers a_this_before v_states v_empty v_cut v_rowMany v_taken v_found v_textLong v_at v_stopped (upd v_all x1.toNatClampNeg (v_before x1.toNatClampNeg)) (upd v_before x1.toNatClampNeg t14)) := hD
    refine lv_iinc (v := x1 + 1) (lv' := [(1, .int (x1 + 1)), (2, .int t14), (0, .ref a_this)]) hx hb dX8_swaps_34 hl (k := 2) rfl rfl (by decide) rfl (fun ls hl => ?_)
    refine lv_goto (tgt := 2) hx hb dX8_swaps_37 (by decide) ?_
    exact hk2 (upd v_all x1.toNatClampNeg (v_before x1.toNatClampNeg)) (upd v_before x1.toNatClampNeg t14) (x1 + 1) H locs ls hf hP hD hS (lv_sub hl [2, 0] rfl)
set_option maxHeartbeats 4000000 in
set_option maxRecDepth 100000 in
theorem w_X8_swaps_L2 {p : Program} {l : Launch} {e : Env} {s : State} {m : MethodId} {args : Array Value} {below : List Frame} {meth : Method} {c : Code} {D : va_G} {cI cM : ClassId} {A : Nat → Prop} {a_this a_this_all a_this_past a_this_refused a_this_box a_this_row a_this_text a_this_numbers a_this_before : Nat} {v_states : Int32} {v_empty : Int32} {v_cut : Int32} {v_rowMany : Int32} {v_taken : Int32} {v_found : Int32} {v_textLong : Int32} {v_at : Int32} {v_stopped : Int32} {N : Nat} {o_all : Nat → Int32} {o_before : Nat → Int32} (C0 : g_cx cX8_swaps none 3 RX8 wsX8_swaps p s m args meth c) (hA : ∀ q, s.heap.size ≤ q → A q) (hK : va_K D vwCl (g_tys cI cM) s) : ∀ n : Nat, ∀ (v_all : Nat → Int32) (v_before : Nat → Int32) (x1 : Int32) (H : Heap) (locs : List Loc) (ls : Array Slot), f_X8_swaps_L2 N n v_all v_before x1 = some (o_all, o_before) → va_P D vwCl (ww_X8_swaps cI cM a_this a_this_all a_this_past a_this_refused a_this_box a_this_row a_this_text a_this_numbers a_this_before v_states v_empty v_cut v_rowMany v_taken v_found v_textLong v_at v_stopped v_all v_before) H → va_D A (ww_X8_swaps cI cM a_this a_this_all a_this_past a_this_refused a_this_box a_this_row a_this_text a_this_numbers a_this_before v_states v_empty v_cut v_rowMany v_taken v_found v_textLong v_at v_stopped v_all v_before) → va_S A s.heap H locs → lv_has ls 3 [(0, .ref a_this), (1, .int x1)] → W p l e rm_X8_swaps s m args below meth c H locs 0 0 (MQ below (g_QV D (g_tys cI cM) A (ww_X8_swaps cI cM a_this a_this_all a_this_past a_this_refused a_this_box a_this_row a_this_text a_this_numbers a_this_before v_states v_empty v_cut v_rowMany v_taken v_found v_textLong v_at v_stopped o_all o_before)) args s 0 0 A) (F0 m 2 ls []) := by
  intro n
  induction n with
  | zero =>
    intro v_all v_before x1 H locs ls hf
    exact absurd hf (fun h => nomatch h)
  | succ n ih =>
    intro v_all v_before x1 H locs ls hf
    exact w_X8_swaps_C2 C0 hA hK _ ih v_all v_before x1 H locs ls hf
def f_X8_swaps (N : Nat) (v_all : Nat → Int32) (v_before : Nat → Int32) : Option ((Nat → Int32) × (Nat → Int32)) :=
  f_X8_swaps_L2 N N v_all v_before 0
set_option maxHeartbeats 4000000 in
set_option maxRecDepth 100000 in
theorem w_X8_swaps_B0 {p : Program} {l : Launch} {e : Env} {s : State} {m : MethodId} {args : Array Value} {below : List Frame} {meth : Method} {c : Code} {D : va_G} {cI cM : ClassId} {A : Nat → Prop} {a_this a_this_all a_this_past a_this_refused a_this_box a_this_row a_this_text a_this_numbers a_this_before : Nat} {v_states : Int32} {v_empty : Int32} {v_cut : Int32} {v_rowMany : Int32} {v_taken : Int32} {v_found : Int32} {v_textLong : Int32} {v_at : Int32} {v_stopped : Int32} {N : Nat} {o_all : Nat → Int32} {o_before : Nat → Int32} (C0 : g_cx cX8_swaps none 3 RX8 wsX8_swaps p s m args meth c) (hA : ∀ q, s.heap.size ≤ q → A q) (hK : va_K D vwCl (g_tys cI cM) s) : ∀ (v_all : Nat → Int32) (v_before : Nat → Int32) (H : Heap) (locs : List Loc) (ls : Array Slot), f_X8_swaps N v_all v_before = some (o_all, o_before) → va_P D vwCl (ww_X8_swaps cI cM a_this a_this_all a_this_past a_this_refused a_this_box a_this_row a_this_text a_this_numbers a_this_before v_states v_empty v_cut v_rowMany v_taken v_found v_textLong v_at v_stopped v_all v_before) H → va_D A (ww_X8_swaps cI cM a_this a_this_all a_this_past a_this_refused a_this_box a_this_row a_this_text a_this_numbers a_this_before v_states v_empty v_cut v_rowMany v_taken v_found v_textLong v_at v_stopped v_all v_before) → va_S A s.heap H locs → lv_has ls 3 [(0, .ref a_this)] → W p l e rm_X8_swaps s m args below meth c H locs 0 0 (MQ below (g_QV D (g_tys cI cM) A (ww_X8_swaps cI cM a_this a_this_all a_this_past a_this_refused a_this_box a_this_row a_this_text a_this_numbers a_this_before v_states v_empty v_cut v_rowMany v_taken v_found v_textLong v_at v_stopped o_all o_before)) args s 0 0 A) (F0 m 0 ls []) := by
  obtain ⟨hx, hb, hr, hml, hown, hts, hlocks⟩ := id C0
  intro v_all v_before H locs ls hf hP hD hS hl
  unfold f_X8_swaps at hf
  refine lv_iconst (v := 0) hx hb dX8_swaps_0 (by decide) ?_
  refine lv_istore_n (lv' := [(1, .int 0), (0, .ref a_this)]) hx hb dX8_swaps_1 rfl hl (by decide) rfl (fun ls hl => ?_)
  exact w_X8_swaps_L2 C0 hA hK N v_all v_before 0 H locs ls hf hP hD hS (lv_sub hl [1, 0] rfl)
set_option maxHeartbeats 4000000 in
set_option maxRecDepth 100000 in
theorem c_X8_swaps (l : Launch) (D : va_G) (cI cM : ClassId) (a_this a_this_all a_this_past a_this_refused a_this_box a_this_row a_this_text a_this_numbers a_this_before : Nat) (sz : Nat) (v_states : Int32) (v_empty : Int32) (v_cut : Int32) (v_rowMany : Int32) (v_taken : Int32) (v_found : Int32) (v_textLong : Int32) (v_at : Int32) (v_stopped : Int32) (v_all : Nat → Int32) (v_before : Nat → Int32) {N : Nat} {o_all : Nat → Int32} {o_before : Nat → Int32} (hf : f_X8_swaps N v_all v_before = some (o_all, o_before)) : Met l yX8_swaps wsX8_swaps rm_X8_swaps (g_Pc D (g_tys cI cM) (ww_X8_swaps cI cM a_this a_this_all a_this_past a_this_refused a_this_box a_this_row a_this_text a_this_numbers a_this_before v_states v_empty v_cut v_rowMany v_taken v_found v_textLong v_at v_stopped v_all v_before) sz [.ref a_this]) (g_QV D (g_tys cI cM) (va_A (ww_X8_swaps cI cM a_this a_this_all a_this_past a_this_refused a_this_box a_this_row a_this_text a_this_numbers a_this_before v_states v_empty v_cut v_rowMany v_taken v_found v_textLong v_at v_stopped v_all v_before) sz) (ww_X8_swaps cI cM a_this a_this_all a_this_past a_this_refused a_this_box a_this_row a_this_text a_this_numbers a_this_before v_states v_empty v_cut v_rowMany v_taken v_found v_textLong v_at v_stopped o_all o_before)) 0 0 (va_A (ww_X8_swaps cI cM a_this a_this_all a_this_past a_this_refused a_this_box a_this_row a_this_text a_this_numbers a_this_before v_states v_empty v_cut v_rowMany v_taken v_found v_textLong v_at v_stopped v_all v_before) sz) := by
  refine g_met (cc := cX8_swaps) (maxL := 3) (ret := none) (Qc := fun D A => g_QV D (g_tys cI cM) A (ww_X8_swaps cI cM a_this a_this_all a_this_past a_this_refused a_this_box a_this_row a_this_text a_this_numbers a_this_before v_states v_empty v_cut v_rowMany v_taken v_found v_textLong v_at v_stopped o_all o_before)) (by decide) rfl ?_
  intro p e s m below meth c A C0 hA hK hP hD
  have hl := lv_entry ([.ref a_this]) (n := 3) (Nat.le_of_ble_eq_true rfl)
  rw [lg_entry_eq]
  generalize (lg_sl ([.ref a_this]) ++ List.replicate (3 - (lg_sl ([.ref a_this])).length) Slot.unset).toArray = ls at hl ⊢
  have hl : lv_has ls 3 [(0, .ref a_this)] := hl
  exact w_X8_swaps_B0 C0 hA hK v_all v_before s.heap [] ls hf hP hD va_S.rf (lv_sub hl [0] rfl)
/-! FloatBoxesModel.reads()I -/
abbrev rm_X8_reads : Room := { frames := 14, cells := 0, slots := 0, locals := 340 }
abbrev ww_X8_reads (cI cM : ClassId) (a_this a_this_all a_this_past a_this_refused a_this_box a_this_row a_this_text a_this_numbers a_this_before : Nat) (v_states : Int32) (v_empty : Int32) (v_cut : Int32) (v_rowMany : Int32) (v_taken : Int32) (v_found : Int32) (v_textLong : Int32) (v_at : Int32) (v_stopped : Int32) (v_text : Nat → Int32) (v_all : Nat → Int32) (v_box : Nat → Int32) (v_numbers : Nat → Int32) (v_before : Nat → Int32) (v_past : Nat → Int32) : va_W := [(a_this, .inr (6, [.ref a_this_all, .ref a_this_past, .int v_states, .ref a_this_refused, .ref a_this_box, .int v_empty, .int v_cut, .ref a_this_row, .int v_rowMany, .int v_taken, .int v_found, .ref a_this_text, .int v_textLong, .int v_at, .ref a_this_numbers, .int v_stopped, .ref a_this_before])), (a_this_text, .inl (cI, 120, .inl v_text)), (a_this_all, .inl (cI, 38, .inl v_all)), (a_this_box, .inl (cI, 12, .inl v_box)), (a_this_numbers, .inl (cI, 4, .inl v_numbers)), (a_this_before, .inl (cI, 38, .inl v_before)), (a_this_past, .inl (cI, 190, .inl v_past))]
def f_X8_reads_C82 (N : Nat) (v_textLong : Int32) (v_text : Nat → Int32) (k82 : Int32 → Int32 → Int32 → Int32 → Int32 → (Nat → Int32) → (Nat → Int32) → (Nat → Int32) → (Nat → Int32) → (Nat → Int32) → Int32 → Option (Int32 × Int32 × Int32 × Int32 × Int32 × Int32 × (Nat → Int32) × (Nat → Int32) × (Nat → Int32) × (Nat → Int32) × (Nat → Int32))) (v_states : Int32) (v_empty : Int32) (v_cut : Int32) (v_at : Int32) (v_stopped : Int32) (v_all : Nat → Int32) (v_box : Nat → Int32) (v_numbers : Nat → Int32) (v_before : Nat → Int32) (v_past : Nat → Int32) (x2 : Int32) : Option (Int32 × Int32 × Int32 × Int32 × Int32 × Int32 × (Nat → Int32) × (Nat → Int32) × (Nat → Int32) × (Nat → Int32) × (Nat → Int32)) :=
  o_b2 (f_X8_here N v_textLong v_text v_at) (fun (r83 : Int32) (v_at_83 : Int32) =>
  if r83 = ((-1)) then
    o_b2 (f_X8_swaps N v_all v_before) (fun (v_all_120 : Nat → Int32) (v_before_120 : Nat → Int32) =>
    o_b2 (f_X8_keep N v_all_120 v_states v_past) (fun (v_states_124 : Int32) (v_past_124 : Nat → Int32) =>
    o_b2 (f_X8_swaps N v_all_120 v_before_120) (fun (v_all_128 : Nat → Int32) (v_before_128 : Nat → Int32) =>
    some (x2, v_states_124, v_empty, v_cut, v_at_83, v_stopped, v_all_128, v_box, v_numbers, v_before_128, v_past_124))))
  else
    o_b8 (f_X8_readsOrder N v_textLong v_text v_empty v_cut v_at_83 v_stopped v_all v_box v_numbers 1) (fun (r92 : Int32) (v_empty_92 : Int32) (v_cut_92 : Int32) (v_at_92 : Int32) (v_stopped_92 : Int32) (v_all_92 : Nat → Int32) (v_box_92 : Nat → Int32) (v_numbers_92 : Nat → Int32) =>
    if v_stopped_92 = 0 then
      k82 v_states v_empty_92 v_cut_92 v_at_92 v_stopped_92 v_all_92 v_box_92 v_numbers_92 v_before v_past (x2 + 1)
    else
      o_b2 (f_X8_swaps N v_all_92 v_before) (fun (v_all_104 : Nat → Int32) (v_before_104 : Nat → Int32) =>
      some (((-1000)) - x2, v_states, v_empty_92, v_cut_92, v_at_92, v_stopped_92, v_all_104, v_box_92, v_numbers_92, v_before_104, v_past))))
def f_X8_reads_L82 (N : Nat) (v_textLong : Int32) (v_text : Nat → Int32) : Nat → Int32 → Int32 → Int32 → Int32 → Int32 → (Nat → Int32) → (Nat → Int32) → (Nat → Int32) → (Nat → Int32) → (Nat → Int32) → Int32 → Option (Int32 × Int32 × Int32 × Int32 × Int32 × Int32 × (Nat → Int32) × (Nat → Int32) × (Nat → Int32) × (Nat → Int32) × (Nat → Int32))
  | 0 => fun _ _ _ _ _ _ _ _ _ _ _ => none
  | n + 1 => f_X8_reads_C82 N v_textLong v_text (f_X8_reads_L82 N v_textLong v_text n)
set_option maxHeartbeats 4000000 in
set_option maxRecDepth 100000 in
theorem w_X8_reads_C82 {p : Program} {l : Launch} {e : Env} {s : State} {m : MethodId} {args : Array Value} {below : List Frame} {meth : Method} {c : Code} {D : va_G} {cI cM : ClassId} {A : Nat → Prop} {a_this a_this_all a_this_past a_this_refused a_this_box a_this_row a_this_text a_this_numbers a_this_before : Nat} {v_rowMany : Int32} {v_taken : Int32} {v_found : Int32} {N : Nat} {v_textLong : Int32} {v_text : Nat → Int32} {r : Int32} {o_states : Int32} {o_empty : Int32} {o_cut : Int32} {o_at : Int32} {o_stopped : Int32} {o_all : Nat → Int32} {o_box : Nat → Int32} {o_numbers : Nat → Int32} {o_before : Nat → Int32} {o_past : Nat → Int32} (C0 : g_cx cX8_reads (some .int) 3 RX8 wsX8_reads p s m args meth c) (hA : ∀ q, s.heap.size ≤ q → A q) (hK : va_K D vwCl (g_tys cI cM) s) (k82 : Int32 → Int32 → Int32 → Int32 → Int32 → (Nat → Int32) → (Nat → Int32) → (Nat → Int32) → (Nat → Int32) → (Nat → Int32) → Int32 → Option (Int32 × Int32 × Int32 × Int32 × Int32 × Int32 × (Nat → Int32) × (Nat → Int32) × (Nat → Int32) × (Nat → Int32) × (Nat → Int32))) (hk82 : ∀ (v_states : Int32) (v_empty : Int32) (v_cut : Int32) (v_at : Int32) (v_stopped : Int32) (v_all : Nat → Int32) (v_box : Nat → Int32) (v_numbers : Nat → Int32) (v_before : Nat → Int32) (v_past : Nat → Int32) (x2 : Int32) (H : Heap) (locs : List Loc) (ls : Array Slot), k82 v_states v_empty v_cut v_at v_stopped v_all v_box v_numbers v_before v_past x2 = some (r, o_states, o_empty, o_cut, o_at, o_stopped, o_all, o_box, o_numbers, o_before, o_past) → va_P D vwCl (ww_X8_reads cI cM a_this a_this_all a_this_past a_this_refused a_this_box a_this_row a_this_text a_this_numbers a_this_before v_states v_empty v_cut v_rowMany v_taken v_found v_textLong v_at v_stopped v_text v_all v_box v_numbers v_before v_past) H → va_D A (ww_X8_reads cI cM a_this a_this_all a_this_past a_this_refused a_this_box a_this_row a_this_text a_this_numbers a_this_before v_states v_empty v_cut v_rowMany v_taken v_found v_textLong v_at v_stopped v_text v_all v_box v_numbers v_before v_past) → va_S A s.heap H locs → lv_has ls 3 [(0, .ref a_this), (2, .int x2)] → W p l e rm_X8_reads s m args below meth c H locs 0 0 (MQ below (g_QI D (g_tys cI cM) A (ww_X8_reads cI cM a_this a_this_all a_this_past a_this_refused a_this_box a_this_row a_this_text a_this_numbers a_this_before o_states o_empty o_cut v_rowMany v_taken v_found v_textLong o_at o_stopped v_text o_all o_box o_numbers o_before o_past) r) args s 0 0 A) (F0 m 82 ls [])) : ∀ (v_states : Int32) (v_empty : Int32) (v_cut : Int32) (v_at : Int32) (v_stopped : Int32) (v_all : Nat → Int32) (v_box : Nat → Int32) (v_numbers : Nat → Int32) (v_before : Nat → Int32) (v_past : Nat → Int32) (x2 : Int32) (H : Heap) (locs : List Loc) (ls : Array Slot), f_X8_reads_C82 N v_textLong v_text k82 v_states v_empty v_cut v_at v_stopped v_all v_box v_numbers v_before v_past x2 = some (r, o_states, o_empty, o_cut, o_at, o_stopped, o_all, o_box, o_numbers, o_before, o_past) → va_P D vwCl (ww_X8_reads cI cM a_this a_this_all a_this_past a_this_refused a_this_box a_this_row a_this_text a_this_numbers a_this_before v_states v_empty v_cut v_rowMany v_taken v_found v_textLong v_at v_stopped v_text v_all v_box v_numbers v_before v_past) H → va_D A (ww_X8_reads cI cM a_this a_this_all a_this_past a_this_refused a_this_box a_this_row a_this_text a_this_numbers a_this_before v_states v_empty v_cut v_rowMany v_taken v_found v_textLong v_at v_stopped v_text v_all v_box v_numbers v_before v_past) → va_S A s.heap H locs → lv_has ls 3 [(0, .ref a_this), (2, .int x2)] → W p l e rm_X8_reads s m args below meth c H locs 0 0 (MQ below (g_QI D (g_tys cI cM) A (ww_X8_reads cI cM a_this a_this_all a_this_past a_this_refused a_this_box a_this_row a_this_text a_this_numbers a_this_before o_states o_empty o_cut v_rowMany v_taken v_found v_textLong o_at o_stopped v_text o_all o_box o_numbers o_before o_past) r) args s 0 0 A) (F0 m 82 ls []) := by
  obtain ⟨hx, hb, hr, hml, hown, hts, hlocks⟩ := id C0
  intro v_states v_empty v_cut v_at v_stopped v_all v_box v_numbers v_before v_past x2 H locs ls hf hP hD hS hl
  unfold f_X8_reads_C82 at hf
  refine lv_aload_n hx hb dX8_reads_82 rfl (lv_at hl 0 rfl) ?_
  obtain ⟨r83, v_at_83, hg83, hf⟩ := o_b2_go hf
  refine g_callVi (wn := (ww_X8_reads cI cM a_this a_this_all a_this_past a_this_refused a_this_box a_this_row a_this_text a_this_numbers a_this_before v_states v_empty v_cut v_rowMany v_taken v_found v_textLong v_at_83 v_stopped v_text v_all v_box v_numbers v_before v_past)) (rest := []) ⟨hx, hb, hml, hown, hts⟩ (c_X8_here l D cI cM a_this a_this_all a_this_past a_this_refused a_this_box a_this_row a_this_text a_this_numbers a_this_before H.size v_states v_empty v_cut v_rowMany v_taken v_found v_textLong v_at v_stopped v_text hg83) (cwV 0 hts gX8_reads_X8_here rfl rfl rfl (by decide +kernel) ⟨Nat.le_of_ble_eq_true rfl, Nat.le_of_ble_eq_true rfl⟩) hK hP hD hS hA [0, 1] [2, 3, 4, 5, 6] [5, 6, 0, 1, 2, 3, 4] rfl rfl rfl rfl rfl rfl (by decide) rfl rfl rfl hl.1 rfl (Nat.le_of_ble_eq_true rfl) dX8_reads_83 (fun H locs hP hD hS => ?_)
  refine lv_iconst (v := (-1)) hx hb dX8_reads_86 (by decide) ?_
  refine lv_icmp_eq (tgt := 119) hx hb dX8_reads_87 (by decide) (fun c87 => ?_) (fun c87 => ?_)
  · replace hf := o_t c87 hf
    refine lv_aload_n hx hb dX8_reads_119 rfl (lv_at hl 0 rfl) ?_
    obtain ⟨v_all_120, v_before_120, hg120, hf⟩ := o_b2_go hf
    refine g_callVv (wn := (ww_X8_reads cI cM a_this a_this_all a_this_past a_this_refused a_this_box a_this_row a_this_text a_this_numbers a_this_before v_states v_empty v_cut v_rowMany v_taken v_found v_textLong v_at_83 v_stopped v_text v_all_120 v_box v_numbers v_before_120 v_past)) (rest := []) ⟨hx, hb, hml, hown, hts⟩ (c_X8_swaps l D cI cM a_this a_this_all a_this_past a_this_refused a_this_box a_this_row a_this_text a_this_numbers a_this_before H.size v_states v_empty v_cut v_rowMany v_taken v_found v_textLong v_at_83 v_stopped v_all v_before hg120) (cwV 0 hts gX8_reads_X8_swaps rfl rfl rfl (by decide +kernel) ⟨Nat.le_of_ble_eq_true rfl, Nat.le_of_ble_eq_true rfl⟩) hK hP hD hS hA [0, 2, 5] [1, 3, 4, 6] [4, 0, 5, 1, 2, 6, 3] rfl rfl rfl rfl rfl rfl (by decide) rfl rfl rfl hl.1 rfl (Nat.le_of_ble_eq_true rfl) dX8_reads_120 (fun H locs hP hD hS => ?_)
    refine lv_aload_n hx hb dX8_reads_123 rfl (lv_at hl 0 rfl) ?_
    obtain ⟨v_states_124, v_past_124, hg124, hf⟩ := o_b2_go hf
    refine g_callVv (wn := (ww_X8_reads cI cM a_this a_this_all a_this_past a_this_refused a_this_box a_this_row a_this_text a_this_numbers a_this_before v_states_124 v_empty v_cut v_rowMany v_taken v_found v_textLong v_at_83 v_stopped v_text v_all_120 v_box v_numbers v_before_120 v_past_124)) (rest := []) ⟨hx, hb, hml, hown, hts⟩ (c_X8_keep l D cI cM a_this a_this_all a_this_past a_this_refused a_this_box a_this_row a_this_text a_this_numbers a_this_before H.size v_states v_empty v_cut v_rowMany v_taken v_found v_textLong v_at_83 v_stopped v_all_120 v_past hg124) (cwV 0 hts gX8_reads_X8_keep rfl rfl rfl (by decide +kernel) ⟨Nat.le_of_ble_eq_true rfl, Nat.le_of_ble_eq_true rfl⟩) hK hP hD hS hA [0, 2, 6] [1, 3, 4, 5] [4, 0, 5, 1, 2, 3, 6] rfl rfl rfl rfl rfl rfl (by decide) rfl rfl rfl hl.1 rfl (Nat.le_of_ble_eq_true rfl) dX8_reads_124 (fun H locs hP hD hS => ?_)
    refine lv_aload_n hx hb dX8_reads_127 rfl (lv_at hl 0 rfl) ?_
    obtain ⟨v_all_128, v_before_128, hg128, hf⟩ := o_b2_go hf
    refine g_callVv (wn := (ww_X8_reads cI cM a_this a_this_all a_this_past a_this_refused a_this_box a_this_row a_this_text a_this_numbers a_this_before v_states_124 v_empty v_cut v_rowMany v_taken v_found v_textLong v_at_83 v_stopped v_text v_all_128 v_box v_numbers v_before_128 v_past_124)) (rest := []) ⟨hx, hb, hml, hown, hts⟩ (c_X8_swaps l D cI cM a_this a_this_all a_this_past a_this_refused a_this_box a_this_row a_this_text a_this_numbers a_this_before H.size v_states_124 v_empty v_cut v_rowMany v_taken v_found v_textLong v_at_83 v_stopped v_all_120 v_before_120 hg128) (cwV 0 hts gX8_reads_X8_swaps rfl rfl rfl (by decide +kernel) ⟨Nat.le_of_ble_eq_true rfl, Nat.le_of_ble_eq_true rfl⟩) hK hP hD hS hA [0, 2, 5] [1, 3, 4, 6] [4, 0, 5, 1, 2, 6, 3] rfl rfl rfl rfl rfl rfl (by decide) rfl rfl rfl hl.1 rfl (Nat.le_of_ble_eq_true rfl) dX8_reads_128 (fun H locs hP hD hS => ?_)
    refine lv_iload_n hx hb dX8_reads_131 rfl (lv_at hl 1 rfl) ?_
    obtain ⟨q0, y0⟩ := o_rp hf
    obtain ⟨q1, y1⟩ := o_rp y0
    obtain ⟨q2, y2⟩ := o_rp y1
    obtain ⟨q3, y3⟩ := o_rp y2
    obtain ⟨q4, y4⟩ := o_rp y3
    obtain ⟨q5, y5⟩ := o_rp y4
    obtain ⟨q6, y6⟩ := o_rp y5
    obtain ⟨q7, y7⟩ := o_rp y6
    obtain ⟨q8, y8⟩ := o_rp y7
    obtain ⟨q9, y9⟩ := o_rp y8
    have q10 := Option.some.inj y9
    subst q0 q1 q2 q3 q4 q5 q6 q7 q8 q9 q10
    exact g_iret hx hb hr hlocks hP hD hK hS dX8_reads_132
  · replace hf := o_f c87 hf
    refine lv_aload_n hx hb dX8_reads_90 rfl (lv_at hl 0 rfl) ?_
    refine lv_iconst (v := 1) hx hb dX8_reads_91 (by decide) ?_
    obtain ⟨r92, v_empty_92, v_cut_92, v_at_92, v_stopped_92, v_all_92, v_box_92, v_numbers_92, hg92, hf⟩ := o_b8_go hf
    refine g_callVi (wn := (ww_X8_reads cI cM a_this a_this_all a_this_past a_this_refused a_this_box a_this_row a_this_text a_this_numbers a_this_before v_states v_empty_92 v_cut_92 v_rowMany v_taken v_found v_textLong v_at_92 v_stopped_92 v_text v_all_92 v_box_92 v_numbers_92 v_before v_past)) (rest := []) ⟨hx, hb, hml, hown, hts⟩ (c_X8_readsOrder l D cI cM a_this a_this_all a_this_past a_this_refused a_this_box a_this_row a_this_text a_this_numbers a_this_before H.size v_states v_empty v_cut v_rowMany v_taken v_found v_textLong v_at_83 v_stopped v_text v_all v_box v_numbers hg92) (cwV 1 hts gX8_reads_X8_readsOrder rfl rfl rfl (by decide +kernel) ⟨Nat.le_of_ble_eq_true rfl, Nat.le_of_ble_eq_true rfl⟩) hK hP hD hS hA [0, 1, 2, 3, 4] [5, 6] [2, 3, 4, 5, 6, 0, 1] rfl rfl rfl rfl rfl rfl (by decide) rfl rfl rfl hl.1 rfl (Nat.le_of_ble_eq_true rfl) dX8_reads_92 (fun H locs hP hD hS => ?_)
    refine lv_istore_n (lv' := [(1, .int r92), (0, .ref a_this), (2, .int x2)]) hx hb dX8_reads_95 rfl hl (by decide) rfl (fun ls hl => ?_)
    refine lv_aload_n hx hb dX8_reads_96 rfl (lv_at hl 1 rfl) ?_
    refine va_get (D := D) (ci := 6) (v := .int v_stopped_92) (C := RX8) (T := TX8) (N := 17) hx hb hts (fun _ h => (List.mem_cons_of_mem _ (List.mem_append_right _ h))) hown hK hP 0 rfl rfl 15 (by decide) (hts (.fieldLink RX8 293 "FloatBoxesModel" "stopped" "Z") (List.mem_cons_of_mem _ (List.mem_append_left _ (List.mem_append_left _ (List.mem_of_getElem? (i := 3) rfl))))) (fun _ h9 => h9) rfl dX8_reads_97 ?_
    refine lv_if_eq (tgt := 113) hx hb dX8_reads_100 (by decide) (fun c100 => ?_) (fun c100 => ?_)
    · replace hf := o_t c100 hf
      refine lv_iinc (v := x2 + 1) (lv' := [(2, .int (x2 + 1)), (1, .int r92), (0, .ref a_this)]) hx hb dX8_reads_113 hl (k := 2) rfl rfl (by decide) rfl (fun ls hl => ?_)
      refine lv_goto (tgt := 82) hx hb dX8_reads_116 (by decide) ?_
      exact hk82 v_states v_empty_92 v_cut_92 v_at_92 v_stopped_92 v_all_92 v_box_92 v_numbers_92 v_before v_past (x2 + 1) H locs ls hf hP hD hS (lv_sub hl [2, 0] rfl)
    · replace hf := o_f c100 hf
      refine lv_aload_n hx hb dX8_reads_103 rfl (lv_at hl 1 rfl) ?_
      obtain ⟨v_all_104, v_before_104, hg104, hf⟩ := o_b2_go hf
      refine g_callVv (wn := (ww_X8_reads cI cM a_this a_this_all a_this_past a_this_refused a_this_box a_this_row a_this_text a_this_numbers a_this_before v_states v_empty_92 v_cut_92 v_rowMany v_taken v_found v_textLong v_at_92 v_stopped_92 v_text v_all_104 v_box_92 v_numbers_92 v_before_104 v_past)) (rest := []) ⟨hx, hb, hml, hown, hts⟩ (c_X8_swaps l D cI cM a_this a_this_all a_this_past a_this_refused a_this_box a_this_row a_this_text a_this_numbers a_this_before H.size v_states v_empty_92 v_cut_92 v_rowMany v_taken v_found v_textLong v_at_92 v_stopped_92 v_all_92 v_before hg104) (cwV 0 hts gX8_reads_X8_swaps rfl rfl rfl (by decide +kernel) ⟨Nat.le_of_ble_eq_true rfl, Nat.le_of_ble_eq_true rfl⟩) hK hP hD hS hA [0, 2, 5] [1, 3, 4, 6] [4, 0, 5, 1, 2, 6, 3] rfl rfl rfl rfl rfl rfl (by decide) rfl rfl rfl hl.1 rfl (Nat.le_of_ble_eq_true rfl) dX8_reads_104 (fun H locs hP hD hS => ?_)
      refine lv_sipush (v := (-1000)) hx hb dX8_reads_107 (by decide) ?_
      refine lv_iload_n hx hb dX8_reads_110 rfl (lv_at hl 2 rfl) ?_
      refine lv_isub hx hb dX8_reads_111 ?_
      obtain ⟨q0, y0⟩ := o_rp hf
      obtain ⟨q1, y1⟩ := o_rp y0
      obtain ⟨q2, y2⟩ := o_rp y1
      obtain ⟨q3, y3⟩ := o_rp y2
      obtain ⟨q4, y4⟩ := o_rp y3
      obtain ⟨q5, y5⟩ := o_rp y4
      obtain ⟨q6, y6⟩ := o_rp y5
      obtain ⟨q7, y7⟩ := o_rp y6
      obtain ⟨q8, y8⟩ := o_rp y7
      obtain ⟨q9, y9⟩ := o_rp y8
      have q10 := Option.some.inj y9
      subst q0 q1 q2 q3 q4 q5 q6 q7 q8 q9 q10
      exact g_iret hx hb hr hlocks hP hD hK hS dX8_reads_112
set_option maxHeartbeats 4000000 in
set_option maxRecDepth 100000 in
theorem w_X8_reads_L82 {p : Program} {l : Launch} {e : Env} {s : State} {m : MethodId} {args : Array Value} {below : List Frame} {meth : Method} {c : Code} {D : va_G} {cI cM : ClassId} {A : Nat → Prop} {a_this a_this_all a_this_past a_this_refused a_this_box a_this_row a_this_text a_this_numbers a_this_before : Nat} {v_rowMany : Int32} {v_taken : Int32} {v_found : Int32} {N : Nat} {v_textLong : Int32} {v_text : Nat → Int32} {r : Int32} {o_states : Int32} {o_empty : Int32} {o_cut : Int32} {o_at : Int32} {o_stopped : Int32} {o_all : Nat → Int32} {o_box : Nat → Int32} {o_numbers : Nat → Int32} {o_before : Nat → Int32} {o_past : Nat → Int32} (C0 : g_cx cX8_reads (some .int) 3 RX8 wsX8_reads p s m args meth c) (hA : ∀ q, s.heap.size ≤ q → A q) (hK : va_K D vwCl (g_tys cI cM) s) : ∀ n : Nat, ∀ (v_states : Int32) (v_empty : Int32) (v_cut : Int32) (v_at : Int32) (v_stopped : Int32) (v_all : Nat → Int32) (v_box : Nat → Int32) (v_numbers : Nat → Int32) (v_before : Nat → Int32) (v_past : Nat → Int32) (x2 : Int32) (H : Heap) (locs : List Loc) (ls : Array Slot), f_X8_reads_L82 N v_textLong v_text n v_states v_empty v_cut v_at v_stopped v_all v_box v_numbers v_before v_past x2 = some (r, o_states, o_empty, o_cut, o_at, o_stopped, o_all, o_box, o_numbers, o_before, o_past) → va_P D vwCl (ww_X8_reads cI cM a_this a_this_all a_this_past a_this_refused a_this_box a_this_row a_this_text a_this_numbers a_this_before v_states v_empty v_cut v_rowMany v_taken v_found v_textLong v_at v_stopped v_text v_all v_box v_numbers v_before v_past) H → va_D A (ww_X8_reads cI cM a_this a_this_all a_this_past a_this_refused a_this_box a_this_row a_this_text a_this_numbers a_this_before v_states v_empty v_cut v_rowMany v_taken v_found v_textLong v_at v_stopped v_text v_all v_box v_numbers v_before v_past) → va_S A s.heap H locs → lv_has ls 3 [(0, .ref a_this), (2, .int x2)] → W p l e rm_X8_reads s m args below meth c H locs 0 0 (MQ below (g_QI D (g_tys cI cM) A (ww_X8_reads cI cM a_this a_this_all a_this_past a_this_refused a_this_box a_this_row a_this_text a_this_numbers a_this_before o_states o_empty o_cut v_rowMany v_taken v_found v_textLong o_at o_stopped v_text o_all o_box o_numbers o_before o_past) r) args s 0 0 A) (F0 m 82 ls []) := by
  intro n
  induction n with
  | zero =>
    intro v_states v_empty v_cut v_at v_stopped v_all v_box v_numbers v_before v_past x2 H locs ls hf
    exact absurd hf (fun h => nomatch h)
  | succ n ih =>
    intro v_states v_empty v_cut v_at v_stopped v_all v_box v_numbers v_before v_past x2 H locs ls hf
    exact w_X8_reads_C82 C0 hA hK _ ih v_states v_empty v_cut v_at v_stopped v_all v_box v_numbers v_before v_past x2 H locs ls hf
def f_X8_reads_C46 (N : Nat) (v_textLong : Int32) (v_text : Nat → Int32) (k46 : Int32 → Int32 → Int32 → Int32 → Int32 → (Nat → Int32) → (Nat → Int32) → (Nat → Int32) → (Nat → Int32) → (Nat → Int32) → Int32 → Option (Int32 × Int32 × Int32 × Int32 × Int32 × Int32 × (Nat → Int32) × (Nat → Int32) × (Nat → Int32) × (Nat → Int32) × (Nat → Int32))) (v_states : Int32) (v_empty : Int32) (v_cut : Int32) (v_at : Int32) (v_stopped : Int32) (v_all : Nat → Int32) (v_box : Nat → Int32) (v_numbers : Nat → Int32) (v_before : Nat → Int32) (v_past : Nat → Int32) (x2 : Int32) : Option (Int32 × Int32 × Int32 × Int32 × Int32 × Int32 × (Nat → Int32) × (Nat → Int32) × (Nat → Int32) × (Nat → Int32) × (Nat → Int32)) :=
  if 38 ≤ x2 then
    f_X8_reads_L82 N v_textLong v_text N v_states v_empty v_cut 0 0 v_all v_box v_numbers v_before v_past 0
  else
    o_in x2 38 (
    o_in x2 38 (
    k46 v_states v_empty v_cut v_at v_stopped v_all v_box v_numbers (upd v_before x2.toNatClampNeg (v_all x2.toNatClampNeg)) v_past (x2 + 1)))
def f_X8_reads_L46 (N : Nat) (v_textLong : Int32) (v_text : Nat → Int32) : Nat → Int32 → Int32 → Int32 → Int32 → Int32 → (Nat → Int32) → (Nat → Int32) → (Nat → Int32) → (Nat → Int32) → (Nat → Int32) → Int32 → Option (Int32 × Int32 × Int32 × Int32 × Int32 × Int32 × (Nat → Int32) × (Nat → Int32) × (Nat → Int32) × (Nat → Int32) × (Nat → Int32))
  | 0 => fun _ _ _ _ _ _ _ _ _ _ _ => none
  | n + 1 => f_X8_reads_C46 N v_textLong v_text (f_X8_reads_L46 N v_textLong v_text n)
set_option maxHeartbeats 4000000 in
set_option maxRecDepth 100000 in
theorem w_X8_reads_C46 {p : Program} {l : Launch} {e : Env} {s : State} {m : MethodId} {args : Array Value} {below : List Frame} {meth : Method} {c : Code} {D : va_G} {cI cM : ClassId} {A : Nat → Prop} {a_this a_this_all a_this_past a_this_refused a_this_box a_this_row a_this_text a_this_numbers a_this_before : Nat} {v_rowMany : Int32} {v_taken : Int32} {v_found : Int32} {N : Nat} {v_textLong : Int32} {v_text : Nat → Int32} {r : Int32} {o_states : Int32} {o_empty : Int32} {o_cut : Int32} {o_at : Int32} {o_stopped : Int32} {o_all : Nat → Int32} {o_box : Nat → Int32} {o_numbers : Nat → Int32} {o_before : Nat → Int32} {o_past : Nat → Int32} (C0 : g_cx cX8_reads (some .int) 3 RX8 wsX8_reads p s m args meth c) (hA : ∀ q, s.heap.size ≤ q → A q) (hK : va_K D vwCl (g_tys cI cM) s) (k46 : Int32 → Int32 → Int32 → Int32 → Int32 → (Nat → Int32) → (Nat → Int32) → (Nat → Int32) → (Nat → Int32) → (Nat → Int32) → Int32 → Option (Int32 × Int32 × Int32 × Int32 × Int32 × Int32 × (Nat → Int32) × (Nat → Int32) × (Nat → Int32) × (Nat → Int32) × (Nat → Int32))) (hk46 : ∀ (v_states : Int32) (v_empty : Int32) (v_cut : Int32) (v_at : Int32) (v_stopped : Int32) (v_all : Nat → Int32) (v_box : Nat → Int32) (v_numbers : Nat → Int32) (v_before : Nat → Int32) (v_past : Nat → Int32) (x2 : Int32) (H : Heap) (locs : List Loc) (ls : Array Slot), k46 v_states v_empty v_cut v_at v_stopped v_all v_box v_numbers v_before v_past x2 = some (r, o_states, o_empty, o_cut, o_at, o_stopped, o_all, o_box, o_numbers, o_before, o_past) → va_P D vwCl (ww_X8_reads cI cM a_this a_this_all a_this_past a_this_refused a_this_box a_this_row a_this_text a_this_numbers a_this_before v_states v_empty v_cut v_rowMany v_taken v_found v_textLong v_at v_stopped v_text v_all v_box v_numbers v_before v_past) H → va_D A (ww_X8_reads cI cM a_this a_this_all a_this_past a_this_refused a_this_box a_this_row a_this_text a_this_numbers a_this_before v_states v_empty v_cut v_rowMany v_taken v_found v_textLong v_at v_stopped v_text v_all v_box v_numbers v_before v_past) → va_S A s.heap H locs → lv_has ls 3 [(0, .ref a_this), (2, .int x2)] → W p l e rm_X8_reads s m args below meth c H locs 0 0 (MQ below (g_QI D (g_tys cI cM) A (ww_X8_reads cI cM a_this a_this_all a_this_past a_this_refused a_this_box a_this_row a_this_text a_this_numbers a_this_before o_states o_empty o_cut v_rowMany v_taken v_found v_textLong o_at o_stopped v_text o_all o_box o_numbers o_before o_past) r) args s 0 0 A) (F0 m 46 ls [])) : ∀ (v_states : Int32) (v_empty : Int32) (v_cut : Int32) (v_at : Int32) (v_stopped : Int32) (v_all : Nat → Int32) (v_box : Nat → Int32) (v_numbers : Nat → Int32) (v_before : Nat → Int32) (v_past : Nat → Int32) (x2 : Int32) (H : Heap) (locs : List Loc) (ls : Array Slot), f_X8_reads_C46 N v_textLong v_text k46 v_states v_empty v_cut v_at v_stopped v_all v_box v_numbers v_before v_past x2 = some (r, o_states, o_empty, o_cut, o_at, o_stopped, o_all, o_box, o_numbers, o_before, o_past) → va_P D vwCl (ww_X8_reads cI cM a_this a_this_all a_this_past a_this_refused a_this_box a_this_row a_this_text a_this_numbers a_this_before v_states v_empty v_cut v_rowMany v_taken v_found v_textLong v_at v_stopped v_text v_all v_box v_numbers v_before v_past) H → va_D A (ww_X8_reads cI cM a_this a_this_all a_this_past a_this_refused a_this_box a_this_row a_this_text a_this_numbers a_this_before v_states v_empty v_cut v_rowMany v_taken v_found v_textLong v_at v_stopped v_text v_all v_box v_numbers v_before v_past) → va_S A s.heap H locs → lv_has ls 3 [(0, .ref a_this), (2, .int x2)] → W p l e rm_X8_reads s m args below meth c H locs 0 0 (MQ below (g_QI D (g_tys cI cM) A (ww_X8_reads cI cM a_this a_this_all a_this_past a_this_refused a_this_box a_this_row a_this_text a_this_numbers a_this_before o_states o_empty o_cut v_rowMany v_taken v_found v_textLong o_at o_stopped v_text o_all o_box o_numbers o_before o_past) r) args s 0 0 A) (F0 m 46 ls []) := by
  obtain ⟨hx, hb, hr, hml, hown, hts, hlocks⟩ := id C0
  intro v_states v_empty v_cut v_at v_stopped v_all v_box v_numbers v_before v_past x2 H locs ls hf hP hD hS hl
  unfold f_X8_reads_C46 at hf
  refine lv_iload_n hx hb dX8_reads_46 rfl (lv_at hl 1 rfl) ?_
  refine lv_bipush (v := 38) hx hb dX8_reads_47 (by decide) ?_
  refine lv_icmp_ge (tgt := 70) hx hb dX8_reads_49 (by decide) (fun c49 => ?_) (fun c49 => ?_)
  · replace hf := o_t c49 hf
    refine lv_iconst (v := 0) hx hb dX8_reads_70 (by decide) ?_
    refine lv_istore_n (lv' := [(2, .int 0), (0, .ref a_this)]) hx hb dX8_reads_71 rfl hl (by decide) rfl (fun ls hl => ?_)
    refine lv_aload_n hx hb dX8_reads_72 rfl (lv_at hl 1 rfl) ?_
    refine lv_iconst (v := 0) hx hb dX8_reads_73 (by decide) ?_
    refine va_put (D := D) (ci := 6) (v := .int 0) (ty := .int) (C := RX8) (T := TX8) (N := 17) hx hb hts (fun _ h => (List.mem_cons_of_mem _ (List.mem_append_right _ h))) tyX8 tyX8_ok nmX8 hown hK hP hD hS 0 rfl rfl 13 (by decide) (hts (.fieldLink RX8 280 "FloatBoxesModel" "at" "I") (List.mem_cons_of_mem _ (List.mem_append_left _ (List.mem_append_left _ (List.mem_of_getElem? (i := 0) rfl))))) (fun _ h9 => h9) rfl (by decide +kernel) rfl rfl (Nat.le_of_ble_eq_true rfl) dX8_reads_74 (fun H locs hP hD hS => ?_)
    replace hP : va_P D vwCl (ww_X8_reads cI cM a_this a_this_all a_this_past a_this_refused a_this_box a_this_row a_this_text a_this_numbers a_this_before v_states v_empty v_cut v_rowMany v_taken v_found v_textLong 0 v_stopped v_text v_all v_box v_numbers v_before v_past) H := hP
    replace hD : va_D A (ww_X8_reads cI cM a_this a_this_all a_this_past a_this_refused a_this_box a_this_row a_this_text a_this_numbers a_this_before v_states v_empty v_cut v_rowMany v_taken v_found v_textLong 0 v_stopped v_text v_all v_box v_numbers v_before v_past) := hD
    refine lv_aload_n hx hb dX8_reads_77 rfl (lv_at hl 1 rfl) ?_
    refine lv_iconst (v := 0) hx hb dX8_reads_78 (by decide) ?_
    refine va_put (D := D) (ci := 6) (v := .int 0) (ty := .boolean) (C := RX8) (T := TX8) (N := 17) hx hb hts (fun _ h => (List.mem_cons_of_mem _ (List.mem_append_right _ h))) tyX8 tyX8_ok nmX8 hown hK hP hD hS 0 rfl rfl 15 (by decide) (hts (.fieldLink RX8 293 "FloatBoxesModel" "stopped" "Z") (List.mem_cons_of_mem _ (List.mem_append_left _ (List.mem_append_left _ (List.mem_of_getElem? (i := 3) rfl))))) (fun _ h9 => h9) rfl (by decide +kernel) (by decide) (by decide) (Nat.le_of_ble_eq_true rfl) dX8_reads_79 (fun H locs hP hD hS => ?_)
    replace hP : va_P D vwCl (ww_X8_reads cI cM a_this a_this_all a_this_past a_this_refused a_this_box a_this_row a_this_text a_this_numbers a_this_before v_states v_empty v_cut v_rowMany v_taken v_found v_textLong 0 0 v_text v_all v_box v_numbers v_before v_past) H := hP
    replace hD : va_D A (ww_X8_reads cI cM a_this a_this_all a_this_past a_this_refused a_this_box a_this_row a_this_text a_this_numbers a_this_before v_states v_empty v_cut v_rowMany v_taken v_found v_textLong 0 0 v_text v_all v_box v_numbers v_before v_past) := hD
    exact w_X8_reads_L82 C0 hA hK N v_states v_empty v_cut 0 0 v_all v_box v_numbers v_before v_past 0 H locs ls hf hP hD hS (lv_sub hl [1, 0] rfl)
  · replace hf := o_f c49 hf
    refine lv_aload_n hx hb dX8_reads_52 rfl (lv_at hl 0 rfl) ?_
    refine va_get (D := D) (ci := 6) (v := .ref a_this_before) (C := RX8) (T := TX8) (N := 17) hx hb hts (fun _ h => (List.mem_cons_of_mem _ (List.mem_append_right _ h))) hown hK hP 0 rfl rfl 16 (by decide) (hts (.fieldLink RX8 31 "FloatBoxesModel" "before" "[I") (List.mem_cons_of_mem _ (List.mem_append_left _ (List.mem_append_left _ (List.mem_of_getElem? (i := 1) rfl))))) (fun _ h9 => h9) rfl dX8_reads_53 ?_
    refine lv_iload_n hx hb dX8_reads_56 rfl (lv_at hl 1 rfl) ?_
    refine lv_aload_n hx hb dX8_reads_57 rfl (lv_at hl 0 rfl) ?_
    refine va_get (D := D) (ci := 6) (v := .ref a_this_all) (C := RX8) (T := TX8) (N := 17) hx hb hts (fun _ h => (List.mem_cons_of_mem _ (List.mem_append_right _ h))) hown hK hP 0 rfl rfl 0 (by decide) (hts (.fieldLink RX8 7 "FloatBoxesModel" "all" "[I") (List.mem_cons_of_mem _ (List.mem_append_left _ (List.mem_append_left _ (List.mem_of_getElem? (i := 2) rfl))))) (fun _ h9 => h9) rfl dX8_reads_58 ?_
    refine lv_iload_n hx hb dX8_reads_61 rfl (lv_at hl 1 rfl) ?_
    obtain ⟨h62, hf⟩ := o_in_go hf
    refine va_iald hx hb hK hP 2 0 rfl rfl h62 dX8_reads_62 ?_
    obtain ⟨h63, hf⟩ := o_in_go hf
    refine va_iast hx hb hK hP hD hS 5 0 rfl rfl h63 dX8_reads_63 (fun H locs hP hD hS => ?_)
    replace hP : va_P D vwCl (ww_X8_reads cI cM a_this a_this_all a_this_past a_this_refused a_this_box a_this_row a_this_text a_this_numbers a_this_before v_states v_empty v_cut v_rowMany v_taken v_found v_textLong v_at v_stopped v_text v_all v_box v_numbers (upd v_before x2.toNatClampNeg (v_all x2.toNatClampNeg)) v_past) H := hP
    replace hD : va_D A (ww_X8_reads cI cM a_this a_this_all a_this_past a_this_refused a_this_box a_this_row a_this_text a_this_numbers a_this_before v_states v_empty v_cut v_rowMany v_taken v_found v_textLong v_at v_stopped v_text v_all v_box v_numbers (upd v_before x2.toNatClampNeg (v_all x2.toNatClampNeg)) v_past) := hD
    refine lv_iinc (v := x2 + 1) (lv' := [(2, .int (x2 + 1)), (0, .ref a_this)]) hx hb dX8_reads_64 hl (k := 1) rfl rfl (by decide) rfl (fun ls hl => ?_)
    refine lv_goto (tgt := 46) hx hb dX8_reads_67 (by decide) ?_
    exact hk46 v_states v_empty v_cut v_at v_stopped v_all v_box v_numbers (upd v_before x2.toNatClampNeg (v_all x2.toNatClampNeg)) v_past (x2 + 1) H locs ls hf hP hD hS (lv_sub hl [1, 0] rfl)
set_option maxHeartbeats 4000000 in
set_option maxRecDepth 100000 in
theorem w_X8_reads_L46 {p : Program} {l : Launch} {e : Env} {s : State} {m : MethodId} {args : Array Value} {below : List Frame} {meth : Method} {c : Code} {D : va_G} {cI cM : ClassId} {A : Nat → Prop} {a_this a_this_all a_this_past a_this_refused a_this_box a_this_row a_this_text a_this_numbers a_this_before : Nat} {v_rowMany : Int32} {v_taken : Int32} {v_found : Int32} {N : Nat} {v_textLong : Int32} {v_text : Nat → Int32} {r : Int32} {o_states : Int32} {o_empty : Int32} {o_cut : Int32} {o_at : Int32} {o_stopped : Int32} {o_all : Nat → Int32} {o_box : Nat → Int32} {o_numbers : Nat → Int32} {o_before : Nat → Int32} {o_past : Nat → Int32} (C0 : g_cx cX8_reads (some .int) 3 RX8 wsX8_reads p s m args meth c) (hA : ∀ q, s.heap.size ≤ q → A q) (hK : va_K D vwCl (g_tys cI cM) s) : ∀ n : Nat, ∀ (v_states : Int32) (v_empty : Int32) (v_cut : Int32) (v_at : Int32) (v_stopped : Int32) (v_all : Nat → Int32) (v_box : Nat → Int32) (v_numbers : Nat → Int32) (v_before : Nat → Int32) (v_past : Nat → Int32) (x2 : Int32) (H : Heap) (locs : List Loc) (ls : Array Slot), f_X8_reads_L46 N v_textLong v_text n v_states v_empty v_cut v_at v_stopped v_all v_box v_numbers v_before v_past x2 = some (r, o_states, o_empty, o_cut, o_at, o_stopped, o_all, o_box, o_numbers, o_before, o_past) → va_P D vwCl (ww_X8_reads cI cM a_this a_this_all a_this_past a_this_refused a_this_box a_this_row a_this_text a_this_numbers a_this_before v_states v_empty v_cut v_rowMany v_taken v_found v_textLong v_at v_stopped v_text v_all v_box v_numbers v_before v_past) H → va_D A (ww_X8_reads cI cM a_this a_this_all a_this_past a_this_refused a_this_box a_this_row a_this_text a_this_numbers a_this_before v_states v_empty v_cut v_rowMany v_taken v_found v_textLong v_at v_stopped v_text v_all v_box v_numbers v_before v_past) → va_S A s.heap H locs → lv_has ls 3 [(0, .ref a_this), (2, .int x2)] → W p l e rm_X8_reads s m args below meth c H locs 0 0 (MQ below (g_QI D (g_tys cI cM) A (ww_X8_reads cI cM a_this a_this_all a_this_past a_this_refused a_this_box a_this_row a_this_text a_this_numbers a_this_before o_states o_empty o_cut v_rowMany v_taken v_found v_textLong o_at o_stopped v_text o_all o_box o_numbers o_before o_past) r) args s 0 0 A) (F0 m 46 ls []) := by
  intro n
  induction n with
  | zero =>
    intro v_states v_empty v_cut v_at v_stopped v_all v_box v_numbers v_before v_past x2 H locs ls hf
    exact absurd hf (fun h => nomatch h)
  | succ n ih =>
    intro v_states v_empty v_cut v_at v_stopped v_all v_box v_numbers v_before v_past x2 H locs ls hf
    exact w_X8_reads_C46 C0 hA hK _ ih v_states v_empty v_cut v_at v_stopped v_all v_box v_numbers v_before v_past x2 H locs ls hf
def f_X8_reads_B32 (N : Nat) (v_textLong : Int32) (v_text : Nat → Int32) (v_states : Int32) (v_empty : Int32) (v_cut : Int32) (v_at : Int32) (v_stopped : Int32) (v_all : Nat → Int32) (v_box : Nat → Int32) (v_numbers : Nat → Int32) (v_before : Nat → Int32) (v_past : Nat → Int32) (x1 : Int32) : Option (Int32 × Int32 × Int32 × Int32 × Int32 × Int32 × (Nat → Int32) × (Nat → Int32) × (Nat → Int32) × (Nat → Int32) × (Nat → Int32)) :=
  if x1 = 0 then
    some (((-10)) - v_at, v_states, v_empty, v_cut, v_at, v_stopped, v_all, v_box, v_numbers, v_before, v_past)
  else
    f_X8_reads_L46 N v_textLong v_text N v_states v_empty v_cut v_at v_stopped v_all v_box v_numbers v_before v_past 0
set_option maxHeartbeats 4000000 in
set_option maxRecDepth 100000 in
theorem w_X8_reads_B32 {p : Program} {l : Launch} {e : Env} {s : State} {m : MethodId} {args : Array Value} {below : List Frame} {meth : Method} {c : Code} {D : va_G} {cI cM : ClassId} {A : Nat → Prop} {a_this a_this_all a_this_past a_this_refused a_this_box a_this_row a_this_text a_this_numbers a_this_before : Nat} {v_rowMany : Int32} {v_taken : Int32} {v_found : Int32} {N : Nat} {v_textLong : Int32} {v_text : Nat → Int32} {r : Int32} {o_states : Int32} {o_empty : Int32} {o_cut : Int32} {o_at : Int32} {o_stopped : Int32} {o_all : Nat → Int32} {o_box : Nat → Int32} {o_numbers : Nat → Int32} {o_before : Nat → Int32} {o_past : Nat → Int32} (C0 : g_cx cX8_reads (some .int) 3 RX8 wsX8_reads p s m args meth c) (hA : ∀ q, s.heap.size ≤ q → A q) (hK : va_K D vwCl (g_tys cI cM) s) : ∀ (v_states : Int32) (v_empty : Int32) (v_cut : Int32) (v_at : Int32) (v_stopped : Int32) (v_all : Nat → Int32) (v_box : Nat → Int32) (v_numbers : Nat → Int32) (v_before : Nat → Int32) (v_past : Nat → Int32) (x1 : Int32) (H : Heap) (locs : List Loc) (ls : Array Slot), f_X8_reads_B32 N v_textLong v_text v_states v_empty v_cut v_at v_stopped v_all v_box v_numbers v_before v_past x1 = some (r, o_states, o_empty, o_cut, o_at, o_stopped, o_all, o_box, o_numbers, o_before, o_past) → va_P D vwCl (ww_X8_reads cI cM a_this a_this_all a_this_past a_this_refused a_this_box a_this_row a_this_text a_this_numbers a_this_before v_states v_empty v_cut v_rowMany v_taken v_found v_textLong v_at v_stopped v_text v_all v_box v_numbers v_before v_past) H → va_D A (ww_X8_reads cI cM a_this a_this_all a_this_past a_this_refused a_this_box a_this_row a_this_text a_this_numbers a_this_before v_states v_empty v_cut v_rowMany v_taken v_found v_textLong v_at v_stopped v_text v_all v_box v_numbers v_before v_past) → va_S A s.heap H locs → lv_has ls 3 [(0, .ref a_this), (1, .int x1)] → W p l e rm_X8_reads s m args below meth c H locs 0 0 (MQ below (g_QI D (g_tys cI cM) A (ww_X8_reads cI cM a_this a_this_all a_this_past a_this_refused a_this_box a_this_row a_this_text a_this_numbers a_this_before o_states o_empty o_cut v_rowMany v_taken v_found v_textLong o_at o_stopped v_text o_all o_box o_numbers o_before o_past) r) args s 0 0 A) (F0 m 32 ls []) := by
  obtain ⟨hx, hb, hr, hml, hown, hts, hlocks⟩ := id C0
  intro v_states v_empty v_cut v_at v_stopped v_all v_box v_numbers v_before v_past x1 H locs ls hf hP hD hS hl
  unfold f_X8_reads_B32 at hf
  refine lv_iload_n hx hb dX8_reads_32 rfl (lv_at hl 1 rfl) ?_
  refine lv_if_ne (tgt := 44) hx hb dX8_reads_33 (by decide) (fun c33 => ?_) (fun c33 => ?_)
  · replace hf := o_f c33 hf
    refine lv_iconst (v := 0) hx hb dX8_reads_44 (by decide) ?_
    refine lv_istore_n (lv' := [(2, .int 0), (0, .ref a_this), (1, .int x1)]) hx hb dX8_reads_45 rfl hl (by decide) rfl (fun ls hl => ?_)
    exact w_X8_reads_L46 C0 hA hK N v_states v_empty v_cut v_at v_stopped v_all v_box v_numbers v_before v_past 0 H locs ls hf hP hD hS (lv_sub hl [1, 0] rfl)
  · replace hf := o_t c33 hf
    refine lv_bipush (v := (-10)) hx hb dX8_reads_36 (by decide) ?_
    refine lv_aload_n hx hb dX8_reads_38 rfl (lv_at hl 0 rfl) ?_
    refine va_get (D := D) (ci := 6) (v := .int v_at) (C := RX8) (T := TX8) (N := 17) hx hb hts (fun _ h => (List.mem_cons_of_mem _ (List.mem_append_right _ h))) hown hK hP 0 rfl rfl 13 (by decide) (hts (.fieldLink RX8 280 "FloatBoxesModel" "at" "I") (List.mem_cons_of_mem _ (List.mem_append_left _ (List.mem_append_left _ (List.mem_of_getElem? (i := 0) rfl))))) (fun _ h9 => h9) rfl dX8_reads_39 ?_
    refine lv_isub hx hb dX8_reads_42 ?_
    obtain ⟨q0, y0⟩ := o_rp hf
    obtain ⟨q1, y1⟩ := o_rp y0
    obtain ⟨q2, y2⟩ := o_rp y1
    obtain ⟨q3, y3⟩ := o_rp y2
    obtain ⟨q4, y4⟩ := o_rp y3
    obtain ⟨q5, y5⟩ := o_rp y4
    obtain ⟨q6, y6⟩ := o_rp y5
    obtain ⟨q7, y7⟩ := o_rp y6
    obtain ⟨q8, y8⟩ := o_rp y7
    obtain ⟨q9, y9⟩ := o_rp y8
    have q10 := Option.some.inj y9
    subst q0 q1 q2 q3 q4 q5 q6 q7 q8 q9 q10
    exact g_iret hx hb hr hlocks hP hD hK hS dX8_reads_43
def f_X8_reads_C11 (N : Nat) (v_textLong : Int32) (v_text : Nat → Int32) (k11 : Int32 → Int32 → Int32 → Int32 → Int32 → (Nat → Int32) → (Nat → Int32) → (Nat → Int32) → (Nat → Int32) → (Nat → Int32) → Int32 → Option (Int32 × Int32 × Int32 × Int32 × Int32 × Int32 × (Nat → Int32) × (Nat → Int32) × (Nat → Int32) × (Nat → Int32) × (Nat → Int32))) (v_states : Int32) (v_empty : Int32) (v_cut : Int32) (v_at : Int32) (v_stopped : Int32) (v_all : Nat → Int32) (v_box : Nat → Int32) (v_numbers : Nat → Int32) (v_before : Nat → Int32) (v_past : Nat → Int32) (x1 : Int32) : Option (Int32 × Int32 × Int32 × Int32 × Int32 × Int32 × (Nat → Int32) × (Nat → Int32) × (Nat → Int32) × (Nat → Int32) × (Nat → Int32)) :=
  if x1 = 0 then
    f_X8_reads_B32 N v_textLong v_text v_states v_empty v_cut v_at v_stopped v_all v_box v_numbers v_before v_past x1
  else
    o_b2 (f_X8_here N v_textLong v_text v_at) (fun (r16 : Int32) (v_at_16 : Int32) =>
    if r16 = ((-1)) then
      f_X8_reads_B32 N v_textLong v_text v_states v_empty v_cut v_at_16 v_stopped v_all v_box v_numbers v_before v_past x1
    else
      o_b8 (f_X8_readsOrder N v_textLong v_text v_empty v_cut v_at_16 v_stopped v_all v_box v_numbers 0) (fun (r25 : Int32) (v_empty_25 : Int32) (v_cut_25 : Int32) (v_at_25 : Int32) (v_stopped_25 : Int32) (v_all_25 : Nat → Int32) (v_box_25 : Nat → Int32) (v_numbers_25 : Nat → Int32) =>
      k11 v_states v_empty_25 v_cut_25 v_at_25 v_stopped_25 v_all_25 v_box_25 v_numbers_25 v_before v_past r25))
def f_X8_reads_L11 (N : Nat) (v_textLong : Int32) (v_text : Nat → Int32) : Nat → Int32 → Int32 → Int32 → Int32 → Int32 → (Nat → Int32) → (Nat → Int32) → (Nat → Int32) → (Nat → Int32) → (Nat → Int32) → Int32 → Option (Int32 × Int32 × Int32 × Int32 × Int32 × Int32 × (Nat → Int32) × (Nat → Int32) × (Nat → Int32) × (Nat → Int32) × (Nat → Int32))
  | 0 => fun _ _ _ _ _ _ _ _ _ _ _ => none
  | n + 1 => f_X8_reads_C11 N v_textLong v_text (f_X8_reads_L11 N v_textLong v_text n)
set_option maxHeartbeats 4000000 in
set_option maxRecDepth 100000 in
theorem w_X8_reads_C11 {p : Program} {l : Launch} {e : Env} {s : State} {m : MethodId} {args : Array Value} {below : List Frame} {meth : Method} {c : Code} {D : va_G} {cI cM : ClassId} {A : Nat → Prop} {a_this a_this_all a_this_past a_this_refused a_this_box a_this_row a_this_text a_this_numbers a_this_before : Nat} {v_rowMany : Int32} {v_taken : Int32} {v_found : Int32} {N : Nat} {v_textLong : Int32} {v_text : Nat → Int32} {r : Int32} {o_states : Int32} {o_empty : Int32} {o_cut : Int32} {o_at : Int32} {o_stopped : Int32} {o_all : Nat → Int32} {o_box : Nat → Int32} {o_numbers : Nat → Int32} {o_before : Nat → Int32} {o_past : Nat → Int32} (C0 : g_cx cX8_reads (some .int) 3 RX8 wsX8_reads p s m args meth c) (hA : ∀ q, s.heap.size ≤ q → A q) (hK : va_K D vwCl (g_tys cI cM) s) (k11 : Int32 → Int32 → Int32 → Int32 → Int32 → (Nat → Int32) → (Nat → Int32) → (Nat → Int32) → (Nat → Int32) → (Nat → Int32) → Int32 → Option (Int32 × Int32 × Int32 × Int32 × Int32 × Int32 × (Nat → Int32) × (Nat → Int32) × (Nat → Int32) × (Nat → Int32) × (Nat → Int32))) (hk11 : ∀ (v_states : Int32) (v_empty : Int32) (v_cut : Int32) (v_at : Int32) (v_stopped : Int32) (v_all : Nat → Int32) (v_box : Nat → Int32) (v_numbers : Nat → Int32) (v_before : Nat → Int32) (v_past : Nat → Int32) (x1 : Int32) (H : Heap) (locs : List Loc) (ls : Array Slot), k11 v_states v_empty v_cut v_at v_stopped v_all v_box v_numbers v_before v_past x1 = some (r, o_states, o_empty, o_cut, o_at, o_stopped, o_all, o_box, o_numbers, o_before, o_past) → va_P D vwCl (ww_X8_reads cI cM a_this a_this_all a_this_past a_this_refused a_this_box a_this_row a_this_text a_this_numbers a_this_before v_states v_empty v_cut v_rowMany v_taken v_found v_textLong v_at v_stopped v_text v_all v_box v_numbers v_before v_past) H → va_D A (ww_X8_reads cI cM a_this a_this_all a_this_past a_this_refused a_this_box a_this_row a_this_text a_this_numbers a_this_before v_states v_empty v_cut v_rowMany v_taken v_found v_textLong v_at v_stopped v_text v_all v_box v_numbers v_before v_past) → va_S A s.heap H locs → lv_has ls 3 [(0, .ref a_this), (1, .int x1)] → W p l e rm_X8_reads s m args below meth c H locs 0 0 (MQ below (g_QI D (g_tys cI cM) A (ww_X8_reads cI cM a_this a_this_all a_this_past a_this_refused a_this_box a_this_row a_this_text a_this_numbers a_this_before o_states o_empty o_cut v_rowMany v_taken v_found v_textLong o_at o_stopped v_text o_all o_box o_numbers o_before o_past) r) args s 0 0 A) (F0 m 11 ls [])) : ∀ (v_states : Int32) (v_empty : Int32) (v_cut : Int32) (v_at : Int32) (v_stopped : Int32) (v_all : Nat → Int32) (v_box : Nat → Int32) (v_numbers : Nat → Int32) (v_before : Nat → Int32) (v_past : Nat → Int32) (x1 : Int32) (H : Heap) (locs : List Loc) (ls : Array Slot), f_X8_reads_C11 N v_textLong v_text k11 v_states v_empty v_cut v_at v_stopped v_all v_box v_numbers v_before v_past x1 = some (r, o_states, o_empty, o_cut, o_at, o_stopped, o_all, o_box, o_numbers, o_before, o_past) → va_P D vwCl (ww_X8_reads cI cM a_this a_this_all a_this_past a_this_refused a_this_box a_this_row a_this_text a_this_numbers a_this_before v_states v_empty v_cut v_rowMany v_taken v_found v_textLong v_at v_stopped v_text v_all v_box v_numbers v_before v_past) H → va_D A (ww_X8_reads cI cM a_this a_this_all a_this_past a_this_refused a_this_box a_this_row a_this_text a_this_numbers a_this_before v_states v_empty v_cut v_rowMany v_taken v_found v_textLong v_at v_stopped v_text v_all v_box v_numbers v_before v_past) → va_S A s.heap H locs → lv_has ls 3 [(0, .ref a_this), (1, .int x1)] → W p l e rm_X8_reads s m args below meth c H locs 0 0 (MQ below (g_QI D (g_tys cI cM) A (ww_X8_reads cI cM a_this a_this_all a_this_past a_this_refused a_this_box a_this_row a_this_text a_this_numbers a_this_before o_states o_empty o_cut v_rowMany v_taken v_found v_textLong o_at o_stopped v_text o_all o_box o_numbers o_before o_past) r) args s 0 0 A) (F0 m 11 ls []) := by
  obtain ⟨hx, hb, hr, hml, hown, hts, hlocks⟩ := id C0
  intro v_states v_empty v_cut v_at v_stopped v_all v_box v_numbers v_before v_past x1 H locs ls hf hP hD hS hl
  unfold f_X8_reads_C11 at hf
  refine lv_iload_n hx hb dX8_reads_11 rfl (lv_at hl 1 rfl) ?_
  refine lv_if_eq (tgt := 32) hx hb dX8_reads_12 (by decide) (fun c12 => ?_) (fun c12 => ?_)
  · replace hf := o_t c12 hf
    exact w_X8_reads_B32 C0 hA hK v_states v_empty v_cut v_at v_stopped v_all v_box v_numbers v_before v_past x1 H locs ls hf hP hD hS (lv_sub hl [0, 1] rfl)
  · replace hf := o_f c12 hf
    refine lv_aload_n hx hb dX8_reads_15 rfl (lv_at hl 0 rfl) ?_
    obtain ⟨r16, v_at_16, hg16, hf⟩ := o_b2_go hf
    refine g_callVi (wn := (ww_X8_reads cI cM a_this a_this_all a_this_past a_this_refused a_this_box a_this_row a_this_text a_this_numbers a_this_before v_states v_empty v_cut v_rowMany v_taken v_found v_textLong v_at_16 v_stopped v_text v_all v_box v_numbers v_before v_past)) (rest := []) ⟨hx, hb, hml, hown, hts⟩ (c_X8_here l D cI cM a_this a_this_all a_this_past a_this_refused a_this_box a_this_row a_this_text a_this_numbers a_this_before H.size v_states v_empty v_cut v_rowMany v_taken v_found v_textLong v_at v_stopped v_text hg16) (cwV 0 hts gX8_reads_X8_here rfl rfl rfl (by decide +kernel) ⟨Nat.le_of_ble_eq_true rfl, Nat.le_of_ble_eq_true rfl⟩) hK hP hD hS hA [0, 1] [2, 3, 4, 5, 6] [5, 6, 0, 1, 2, 3, 4] rfl rfl rfl rfl rfl rfl (by decide) rfl rfl rfl hl.1 rfl (Nat.le_of_ble_eq_true rfl) dX8_reads_16 (fun H locs hP hD hS => ?_)
    refine lv_iconst (v := (-1)) hx hb dX8_reads_19 (by decide) ?_
    refine lv_icmp_eq (tgt := 32) hx hb dX8_reads_20 (by decide) (fun c20 => ?_) (fun c20 => ?_)
    · replace hf := o_t c20 hf
      exact w_X8_reads_B32 C0 hA hK v_states v_empty v_cut v_at_16 v_stopped v_all v_box v_numbers v_before v_past x1 H locs ls hf hP hD hS (lv_sub hl [0, 1] rfl)
    · replace hf := o_f c20 hf
      refine lv_aload_n hx hb dX8_reads_23 rfl (lv_at hl 0 rfl) ?_
      refine lv_iconst (v := 0) hx hb dX8_reads_24 (by decide) ?_
      obtain ⟨r25, v_empty_25, v_cut_25, v_at_25, v_stopped_25, v_all_25, v_box_25, v_numbers_25, hg25, hf⟩ := o_b8_go hf
      refine g_callVi (wn := (ww_X8_reads cI cM a_this a_this_all a_this_past a_this_refused a_this_box a_this_row a_this_text a_this_numbers a_this_before v_states v_empty_25 v_cut_25 v_rowMany v_taken v_found v_textLong v_at_25 v_stopped_25 v_text v_all_25 v_box_25 v_numbers_25 v_before v_past)) (rest := []) ⟨hx, hb, hml, hown, hts⟩ (c_X8_readsOrder l D cI cM a_this a_this_all a_this_past a_this_refused a_this_box a_this_row a_this_text a_this_numbers a_this_before H.size v_states v_empty v_cut v_rowMany v_taken v_found v_textLong v_at_16 v_stopped v_text v_all v_box v_numbers hg25) (cwV 1 hts gX8_reads_X8_readsOrder rfl rfl rfl (by decide +kernel) ⟨Nat.le_of_ble_eq_true rfl, Nat.le_of_ble_eq_true rfl⟩) hK hP hD hS hA [0, 1, 2, 3, 4] [5, 6] [2, 3, 4, 5, 6, 0, 1] rfl rfl rfl rfl rfl rfl (by decide) rfl rfl rfl hl.1 rfl (Nat.le_of_ble_eq_true rfl) dX8_reads_25 (fun H locs hP hD hS => ?_)
      refine lv_istore_n (lv' := [(1, .int r25), (0, .ref a_this)]) hx hb dX8_reads_28 rfl hl (by decide) rfl (fun ls hl => ?_)
      refine lv_goto (tgt := 11) hx hb dX8_reads_29 (by decide) ?_
      exact hk11 v_states v_empty_25 v_cut_25 v_at_25 v_stopped_25 v_all_25 v_box_25 v_numbers_25 v_before v_past r25 H locs ls hf hP hD hS (lv_sub hl [1, 0] rfl)
set_option maxHeartbeats 4000000 in
set_option maxRecDepth 100000 in
theorem w_X8_reads_L11 {p : Program} {l : Launch} {e : Env} {s : State} {m : MethodId} {args : Array Value} {below : List Frame} {meth : Method} {c : Code} {D : va_G} {cI cM : ClassId} {A : Nat → Prop} {a_this a_this_all a_this_past a_this_refused a_this_box a_this_row a_this_text a_this_numbers a_this_before : Nat} {v_rowMany : Int32} {v_taken : Int32} {v_found : Int32} {N : Nat} {v_textLong : Int32} {v_text : Nat → Int32} {r : Int32} {o_states : Int32} {o_empty : Int32} {o_cut : Int32} {o_at : Int32} {o_stopped : Int32} {o_all : Nat → Int32} {o_box : Nat → Int32} {o_numbers : Nat → Int32} {o_before : Nat → Int32} {o_past : Nat → Int32} (C0 : g_cx cX8_reads (some .int) 3 RX8 wsX8_reads p s m args meth c) (hA : ∀ q, s.heap.size ≤ q → A q) (hK : va_K D vwCl (g_tys cI cM) s) : ∀ n : Nat, ∀ (v_states : Int32) (v_empty : Int32) (v_cut : Int32) (v_at : Int32) (v_stopped : Int32) (v_all : Nat → Int32) (v_box : Nat → Int32) (v_numbers : Nat → Int32) (v_before : Nat → Int32) (v_past : Nat → Int32) (x1 : Int32) (H : Heap) (locs : List Loc) (ls : Array Slot), f_X8_reads_L11 N v_textLong v_text n v_states v_empty v_cut v_at v_stopped v_all v_box v_numbers v_before v_past x1 = some (r, o_states, o_empty, o_cut, o_at, o_stopped, o_all, o_box, o_numbers, o_before, o_past) → va_P D vwCl (ww_X8_reads cI cM a_this a_this_all a_this_past a_this_refused a_this_box a_this_row a_this_text a_this_numbers a_this_before v_states v_empty v_cut v_rowMany v_taken v_found v_textLong v_at v_stopped v_text v_all v_box v_numbers v_before v_past) H → va_D A (ww_X8_reads cI cM a_this a_this_all a_this_past a_this_refused a_this_box a_this_row a_this_text a_this_numbers a_this_before v_states v_empty v_cut v_rowMany v_taken v_found v_textLong v_at v_stopped v_text v_all v_box v_numbers v_before v_past) → va_S A s.heap H locs → lv_has ls 3 [(0, .ref a_this), (1, .int x1)] → W p l e rm_X8_reads s m args below meth c H locs 0 0 (MQ below (g_QI D (g_tys cI cM) A (ww_X8_reads cI cM a_this a_this_all a_this_past a_this_refused a_this_box a_this_row a_this_text a_this_numbers a_this_before o_states o_empty o_cut v_rowMany v_taken v_found v_textLong o_at o_stopped v_text o_all o_box o_numbers o_before o_past) r) args s 0 0 A) (F0 m 11 ls []) := by
  intro n
  induction n with
  | zero =>
    intro v_states v_empty v_cut v_at v_stopped v_all v_box v_numbers v_before v_past x1 H locs ls hf
    exact absurd hf (fun h => nomatch h)
  | succ n ih =>
    intro v_states v_empty v_cut v_at v_stopped v_all v_box v_numbers v_before v_past x1 H locs ls hf
    exact w_X8_reads_C11 C0 hA hK _ ih v_states v_empty v_cut v_at v_stopped v_all v_box v_numbers v_before v_past x1 H locs ls hf
def f_X8_reads (N : Nat) (v_textLong : Int32) (v_text : Nat → Int32) (v_states : Int32) (v_empty : Int32) (v_cut : Int32) (v_at : Int32) (v_stopped : Int32) (v_all : Nat → Int32) (v_box : Nat → Int32) (v_numbers : Nat → Int32) (v_before : Nat → Int32) (v_past : Nat → Int32) : Option (Int32 × Int32 × Int32 × Int32 × Int32 × Int32 × (Nat → Int32) × (Nat → Int32) × (Nat → Int32) × (Nat → Int32) × (Nat → Int32)) :=
  o_b8 (f_X8_readsOrder N v_textLong v_text v_empty v_cut 0 v_stopped v_all v_box v_numbers 0) (fun (r7 : Int32) (v_empty_7 : Int32) (v_cut_7 : Int32) (v_at_7 : Int32) (v_stopped_7 : Int32) (v_all_7 : Nat → Int32) (v_box_7 : Nat → Int32) (v_numbers_7 : Nat → Int32) =>
  f_X8_reads_L11 N v_textLong v_text N v_states v_empty_7 v_cut_7 v_at_7 v_stopped_7 v_all_7 v_box_7 v_numbers_7 v_before v_past r7)
set_option maxHeartbeats 4000000 in
set_option maxRecDepth 100000 in
theorem w_X8_reads_B0 {p : Program} {l : Launch} {e : Env} {s : State} {m : MethodId} {args : Array Value} {below : List Frame} {meth : Method} {c : Code} {D : va_G} {cI cM : ClassId} {A : Nat → Prop} {a_this a_this_all a_this_past a_this_refused a_this_box a_this_row a_this_text a_this_numbers a_this_before : Nat} {v_rowMany : Int32} {v_taken : Int32} {v_found : Int32} {N : Nat} {v_textLong : Int32} {v_text : Nat → Int32} {r : Int32} {o_states : Int32} {o_empty : Int32} {o_cut : Int32} {o_at : Int32} {o_stopped : Int32} {o_all : Nat → Int32} {o_box : Nat → Int32} {o_numbers : Nat → Int32} {o_before : Nat → Int32} {o_past : Nat → Int32} (C0 : g_cx cX8_reads (some .int) 3 RX8 wsX8_reads p s m args meth c) (hA : ∀ q, s.heap.size ≤ q → A q) (hK : va_K D vwCl (g_tys cI cM) s) : ∀ (v_states : Int32) (v_empty : Int32) (v_cut : Int32) (v_at : Int32) (v_stopped : Int32) (v_all : Nat → Int32) (v_box : Nat → Int32) (v_numbers : Nat → Int32) (v_before : Nat → Int32) (v_past : Nat → Int32) (H : Heap) (locs : List Loc) (ls : Array Slot), f_X8_reads N v_textLong v_text v_states v_empty v_cut v_at v_stopped v_all v_box v_numbers v_before v_past = some (r, o_states, o_empty, o_cut, o_at, o_stopped, o_all, o_box, o_numbers, o_before, o_past) → va_P D vwCl (ww_X8_reads cI cM a_this a_this_all a_this_past a_this_refused a_this_box a_this_row a_this_text a_this_numbers a_this_before v_states v_empty v_cut v_rowMany v_taken v_found v_textLong v_at v_stopped v_text v_all v_box v_numbers v_before v_past) H → va_D A (ww_X8_reads cI cM a_this a_this_all a_this_past a_this_refused a_this_box a_this_row a_this_text a_this_numbers a_this_before v_states v_empty v_cut v_rowMany v_taken v_found v_textLong v_at v_stopped v_text v_all v_box v_numbers v_before v_past) → va_S A s.heap H locs → lv_has ls 3 [(0, .ref a_this)] → W p l e rm_X8_reads s m args below meth c H locs 0 0 (MQ below (g_QI D (g_tys cI cM) A (ww_X8_reads cI cM a_this a_this_all a_this_past a_this_refused a_this_box a_this_row a_this_text a_this_numbers a_this_before o_states o_empty o_cut v_rowMany v_taken v_found v_textLong o_at o_stopped v_text o_all o_box o_numbers o_before o_past) r) args s 0 0 A) (F0 m 0 ls []) := by
  obtain ⟨hx, hb, hr, hml, hown, hts, hlocks⟩ := id C0
  intro v_states v_empty v_cut v_at v_stopped v_all v_box v_numbers v_before v_past H locs ls hf hP hD hS hl
  unfold f_X8_reads at hf
  refine lv_aload_n hx hb dX8_reads_0 rfl (lv_at hl 0 rfl) ?_
  refine lv_iconst (v := 0) hx hb dX8_reads_1 (by decide) ?_
  refine va_put (D := D) (ci := 6) (v := .int 0) (ty := .int) (C := RX8) (T := TX8) (N := 17) hx hb hts (fun _ h => (List.mem_cons_of_mem _ (List.mem_append_right _ h))) tyX8 tyX8_ok nmX8 hown hK hP hD hS 0 rfl rfl 13 (by decide) (hts (.fieldLink RX8 280 "FloatBoxesModel" "at" "I") (List.mem_cons_of_mem _ (List.mem_append_left _ (List.mem_append_left _ (List.mem_of_getElem? (i := 0) rfl))))) (fun _ h9 => h9) rfl (by decide +kernel) rfl rfl (Nat.le_of_ble_eq_true rfl) dX8_reads_2 (fun H locs hP hD hS => ?_)
  replace hP : va_P D vwCl (ww_X8_reads cI cM a_this a_this_all a_this_past a_this_refused a_this_box a_this_row a_this_text a_this_numbers a_this_before v_states v_empty v_cut v_rowMany v_taken v_found v_textLong 0 v_stopped v_text v_all v_box v_numbers v_before v_past) H := hP
  replace hD : va_D A (ww_X8_reads cI cM a_this a_this_all a_this_past a_this_refused a_this_box a_this_row a_this_text a_this_numbers a_this_before v_states v_empty v_cut v_rowMany v_taken v_found v_textLong 0 v_stopped v_text v_all v_box v_numbers v_before v_past) := hD
  refine lv_aload_n hx hb dX8_reads_5 rfl (lv_at hl 0 rfl) ?_
  refine lv_iconst (v := 0) hx hb dX8_reads_6 (by decide) ?_
  obtain ⟨r7, v_empty_7, v_cut_7, v_at_7, v_stopped_7, v_all_7, v_box_7, v_numbers_7, hg7, hf⟩ := o_b8_go hf
  refine g_callVi (wn := (ww_X8_reads cI cM a_this a_this_all a_this_past a_this_refused a_this_box a_this_row a_this_text a_this_numbers a_this_before v_states v_empty_7 v_cut_7 v_rowMany v_taken v_found v_textLong v_at_7 v_stopped_7 v_text v_all_7 v_box_7 v_numbers_7 v_before v_past)) (rest := []) ⟨hx, hb, hml, hown, hts⟩ (c_X8_readsOrder l D cI cM a_this a_this_all a_this_past a_this_refused a_this_box a_this_row a_this_text a_this_numbers a_this_before H.size v_states v_empty v_cut v_rowMany v_taken v_found v_textLong 0 v_stopped v_text v_all v_box v_numbers hg7) (cwV 1 hts gX8_reads_X8_readsOrder rfl rfl rfl (by decide +kernel) ⟨Nat.le_of_ble_eq_true rfl, Nat.le_of_ble_eq_true rfl⟩) hK hP hD hS hA [0, 1, 2, 3, 4] [5, 6] [2, 3, 4, 5, 6, 0, 1] rfl rfl rfl rfl rfl rfl (by decide) rfl rfl rfl hl.1 rfl (Nat.le_of_ble_eq_true rfl) dX8_reads_7 (fun H locs hP hD hS => ?_)
  refine lv_istore_n (lv' := [(1, .int r7), (0, .ref a_this)]) hx hb dX8_reads_10 rfl hl (by decide) rfl (fun ls hl => ?_)
  exact w_X8_reads_L11 C0 hA hK N v_states v_empty_7 v_cut_7 v_at_7 v_stopped_7 v_all_7 v_box_7 v_numbers_7 v_before v_past r7 H locs ls hf hP hD hS (lv_sub hl [1, 0] rfl)
set_option maxHeartbeats 4000000 in
set_option maxRecDepth 100000 in
theorem c_X8_reads (l : Launch) (D : va_G) (cI cM : ClassId) (a_this a_this_all a_this_past a_this_refused a_this_box a_this_row a_this_text a_this_numbers a_this_before : Nat) (sz : Nat) (v_states : Int32) (v_empty : Int32) (v_cut : Int32) (v_rowMany : Int32) (v_taken : Int32) (v_found : Int32) (v_textLong : Int32) (v_at : Int32) (v_stopped : Int32) (v_text : Nat → Int32) (v_all : Nat → Int32) (v_box : Nat → Int32) (v_numbers : Nat → Int32) (v_before : Nat → Int32) (v_past : Nat → Int32) {N : Nat} {r : Int32} {o_states : Int32} {o_empty : Int32} {o_cut : Int32} {o_at : Int32} {o_stopped : Int32} {o_all : Nat → Int32} {o_box : Nat → Int32} {o_numbers : Nat → Int32} {o_before : Nat → Int32} {o_past : Nat → Int32} (hf : f_X8_reads N v_textLong v_text v_states v_empty v_cut v_at v_stopped v_all v_box v_numbers v_before v_past = some (r, o_states, o_empty, o_cut, o_at, o_stopped, o_all, o_box, o_numbers, o_before, o_past)) : Met l yX8_reads wsX8_reads rm_X8_reads (g_Pc D (g_tys cI cM) (ww_X8_reads cI cM a_this a_this_all a_this_past a_this_refused a_this_box a_this_row a_this_text a_this_numbers a_this_before v_states v_empty v_cut v_rowMany v_taken v_found v_textLong v_at v_stopped v_text v_all v_box v_numbers v_before v_past) sz [.ref a_this]) (g_QI D (g_tys cI cM) (va_A (ww_X8_reads cI cM a_this a_this_all a_this_past a_this_refused a_this_box a_this_row a_this_text a_this_numbers a_this_before v_states v_empty v_cut v_rowMany v_taken v_found v_textLong v_at v_stopped v_text v_all v_box v_numbers v_before v_past) sz) (ww_X8_reads cI cM a_this a_this_all a_this_past a_this_refused a_this_box a_this_row a_this_text a_this_numbers a_this_before o_states o_empty o_cut v_rowMany v_taken v_found v_textLong o_at o_stopped v_text o_all o_box o_numbers o_before o_past) r) 0 0 (va_A (ww_X8_reads cI cM a_this a_this_all a_this_past a_this_refused a_this_box a_this_row a_this_text a_this_numbers a_this_before v_states v_empty v_cut v_rowMany v_taken v_found v_textLong v_at v_stopped v_text v_all v_box v_numbers v_before v_past) sz) := by
  refine g_met (cc := cX8_reads) (maxL := 3) (ret := (some .int)) (Qc := fun D A => g_QI D (g_tys cI cM) A (ww_X8_reads cI cM a_this a_this_all a_this_past a_this_refused a_this_box a_this_row a_this_text a_this_numbers a_this_before o_states o_empty o_cut v_rowMany v_taken v_found v_textLong o_at o_stopped v_text o_all o_box o_numbers o_before o_past) r) (by decide) rfl ?_
  intro p e s m below meth c A C0 hA hK hP hD
  have hl := lv_entry ([.ref a_this]) (n := 3) (Nat.le_of_ble_eq_true rfl)
  rw [lg_entry_eq]
  generalize (lg_sl ([.ref a_this]) ++ List.replicate (3 - (lg_sl ([.ref a_this])).length) Slot.unset).toArray = ls at hl ⊢
  have hl : lv_has ls 3 [(0, .ref a_this)] := hl
  exact w_X8_reads_B0 C0 hA hK v_states v_empty v_cut v_at v_stopped v_all v_box v_numbers v_before v_past s.heap [] ls hf hP hD va_S.rf (lv_sub hl [0] rfl)
/-! FloatBoxesModel.back()I -/
abbrev rm_X8_back : Room := { frames := 1, cells := 0, slots := 0, locals := 21 }
abbrev ww_X8_back (cI cM : ClassId) (a_this a_this_all a_this_past a_this_refused a_this_box a_this_row a_this_text a_this_numbers a_this_before : Nat) (v_states : Int32) (v_empty : Int32) (v_cut : Int32) (v_rowMany : Int32) (v_taken : Int32) (v_found : Int32) (v_textLong : Int32) (v_at : Int32) (v_stopped : Int32) (v_past : Nat → Int32) (v_all : Nat → Int32) (v_refused : Nat → Int32) : va_W := [(a_this, .inr (6, [.ref a_this_all, .ref a_this_past, .int v_states, .ref a_this_refused, .ref a_this_box, .int v_empty, .int v_cut, .ref a_this_row, .int v_rowMany, .int v_taken, .int v_found, .ref a_this_text, .int v_textLong, .int v_at, .ref a_this_numbers, .int v_stopped, .ref a_this_before])), (a_this_past, .inl (cI, 190, .inl v_past)), (a_this_all, .inl (cI, 38, .inl v_all)), (a_this_refused, .inl (cI, 3, .inl v_refused))]
def f_X8_back_C27 (N : Nat) (v_past : Nat → Int32) (k27 : Int32 → (Nat → Int32) → (Nat → Int32) → Int32 → Option (Int32 × Int32 × (Nat → Int32) × (Nat → Int32))) (v_states : Int32) (v_all : Nat → Int32) (v_refused : Nat → Int32) (x1 : Int32) : Option (Int32 × Int32 × (Nat → Int32) × (Nat → Int32)) :=
  if 38 ≤ x1 then
    some (v_states, v_states, v_all, v_refused)
  else
    o_in ((38 * v_states) + x1) 190 (
    o_in x1 38 (
    k27 v_states (upd v_all x1.toNatClampNeg (v_past ((38 * v_states) + x1).toNatClampNeg)) v_refused (x1 + 1)))
def f_X8_back_L27 (N : Nat) (v_past : Nat → Int32) : Nat → Int32 → (Nat → Int32) → (Nat → Int32) → Int32 → Option (Int32 × Int32 × (Nat → Int32) × (Nat → Int32))
  | 0 => fun _ _ _ _ => none
  | n + 1 => f_X8_back_C27 N v_past (f_X8_back_L27 N v_past n)
set_option maxHeartbeats 4000000 in
set_option maxRecDepth 100000 in
theorem w_X8_back_C27 {p : Program} {l : Launch} {e : Env} {s : State} {m : MethodId} {args : Array Value} {below : List Frame} {meth : Method} {c : Code} {D : va_G} {cI cM : ClassId} {A : Nat → Prop} {a_this a_this_all a_this_past a_this_refused a_this_box a_this_row a_this_text a_this_numbers a_this_before : Nat} {v_empty : Int32} {v_cut : Int32} {v_rowMany : Int32} {v_taken : Int32} {v_found : Int32} {v_textLong : Int32} {v_at : Int32} {v_stopped : Int32} {N : Nat} {v_past : Nat → Int32} {r : Int32} {o_states : Int32} {o_all : Nat → Int32} {o_refused : Nat → Int32} (C0 : g_cx cX8_back (some .int) 2 RX8 wsX8_back p s m args meth c) (hA : ∀ q, s.heap.size ≤ q → A q) (hK : va_K D vwCl (g_tys cI cM) s) (k27 : Int32 → (Nat → Int32) → (Nat → Int32) → Int32 → Option (Int32 × Int32 × (Nat → Int32) × (Nat → Int32))) (hk27 : ∀ (v_states : Int32) (v_all : Nat → Int32) (v_refused : Nat → Int32) (x1 : Int32) (H : Heap) (locs : List Loc) (ls : Array Slot), k27 v_states v_all v_refused x1 = some (r, o_states, o_all, o_refused) → va_P D vwCl (ww_X8_back cI cM a_this a_this_all a_this_past a_this_refused a_this_box a_this_row a_this_text a_this_numbers a_this_before v_states v_empty v_cut v_rowMany v_taken v_found v_textLong v_at v_stopped v_past v_all v_refused) H → va_D A (ww_X8_back cI cM a_this a_this_all a_this_past a_this_refused a_this_box a_this_row a_this_text a_this_numbers a_this_before v_states v_empty v_cut v_rowMany v_taken v_found v_textLong v_at v_stopped v_past v_all v_refused) → va_S A s.heap H locs → lv_has ls 2 [(0, .ref a_this), (1, .int x1)] → W p l e rm_X8_back s m args below meth c H locs 0 0 (MQ below (g_QI D (g_tys cI cM) A (ww_X8_back cI cM a_this a_this_all a_this_past a_this_refused a_this_box a_this_row a_this_text a_this_numbers a_this_before o_states v_empty v_cut v_rowMany v_taken v_found v_textLong v_at v_stopped v_past o_all o_refused) r) args s 0 0 A) (F0 m 27 ls [])) : ∀ (v_states : Int32) (v_all : Nat → Int32) (v_refused : Nat → Int32) (x1 : Int32) (H : Heap) (locs : List Loc) (ls : Array Slot), f_X8_back_C27 N v_past k27 v_states v_all v_refused x1 = some (r, o_states, o_all, o_refused) → va_P D vwCl (ww_X8_back cI cM a_this a_this_all a_this_past a_this_refused a_this_box a_this_row a_this_text a_this_numbers a_this_before v_states v_empty v_cut v_rowMany v_taken v_found v_textLong v_at v_stopped v_past v_all v_refused) H → va_D A (ww_X8_back cI cM a_this a_this_all a_this_past a_this_refused a_this_box a_this_row a_this_text a_this_numbers a_this_before v_states v_empty v_cut v_rowMany v_taken v_found v_textLong v_at v_stopped v_past v_all v_refused) → va_S A s.heap H locs → lv_has ls 2 [(0, .ref a_this), (1, .int x1)] → W p l e rm_X8_back s m args below meth c H locs 0 0 (MQ below (g_QI D (g_tys cI cM) A (ww_X8_back cI cM a_this a_this_all a_this_past a_this_refused a_this_box a_this_row a_this_text a_this_numbers a_this_before o_states v_empty v_cut v_rowMany v_taken v_found v_textLong v_at v_stopped v_past o_all o_refused) r) args s 0 0 A) (F0 m 27 ls []) := by
  obtain ⟨hx, hb, hr, hml, hown, hts, hlocks⟩ := id C0
  intro v_states v_all v_refused x1 H locs ls hf hP hD hS hl
  unfold f_X8_back_C27 at hf
  refine lv_iload_n hx hb dX8_back_27 rfl (lv_at hl 1 rfl) ?_
  refine lv_bipush (v := 38) hx hb dX8_back_28 (by decide) ?_
  refine lv_icmp_ge (tgt := 59) hx hb dX8_back_30 (by decide) (fun c30 => ?_) (fun c30 => ?_)
  · replace hf := o_t c30 hf
    refine lv_aload_n hx hb dX8_back_59 rfl (lv_at hl 0 rfl) ?_
    refine va_get (D := D) (ci := 6) (v := .int v_states) (C := RX8) (T := TX8) (N := 17) hx hb hts (fun _ h => (List.mem_cons_of_mem _ (List.mem_append_right _ h))) hown hK hP 0 rfl rfl 2 (by decide) (hts (.fieldLink RX8 43 "FloatBoxesModel" "states" "I") (List.mem_cons_of_mem _ (List.mem_append_left _ (List.mem_of_getElem? (i := 0) rfl)))) (fun _ h9 => h9) rfl dX8_back_60 ?_
    obtain ⟨q0, y0⟩ := o_rp hf
    obtain ⟨q1, y1⟩ := o_rp y0
    obtain ⟨q2, y2⟩ := o_rp y1
    have q3 := Option.some.inj y2
    subst q0 q1 q2 q3
    exact g_iret hx hb hr hlocks hP hD hK hS dX8_back_63
  · replace hf := o_f c30 hf
    refine lv_aload_n hx hb dX8_back_33 rfl (lv_at hl 0 rfl) ?_
    refine va_get (D := D) (ci := 6) (v := .ref a_this_all) (C := RX8) (T := TX8) (N := 17) hx hb hts (fun _ h => (List.mem_cons_of_mem _ (List.mem_append_right _ h))) hown hK hP 0 rfl rfl 0 (by decide) (hts (.fieldLink RX8 7 "FloatBoxesModel" "all" "[I") (List.mem_cons_of_mem _ (List.mem_append_left _ (List.mem_of_getElem? (i := 2) rfl)))) (fun _ h9 => h9) rfl dX8_back_34 ?_
    refine lv_iload_n hx hb dX8_back_37 rfl (lv_at hl 1 rfl) ?_
    refine lv_aload_n hx hb dX8_back_38 rfl (lv_at hl 0 rfl) ?_
    refine va_get (D := D) (ci := 6) (v := .ref a_this_past) (C := RX8) (T := TX8) (N := 17) hx hb hts (fun _ h => (List.mem_cons_of_mem _ (List.mem_append_right _ h))) hown hK hP 0 rfl rfl 1 (by decide) (hts (.fieldLink RX8 13 "FloatBoxesModel" "past" "[I") (List.mem_cons_of_mem _ (List.mem_append_left _ (List.mem_of_getElem? (i := 3) rfl)))) (fun _ h9 => h9) rfl dX8_back_39 ?_
    refine lv_bipush (v := 38) hx hb dX8_back_42 (by decide) ?_
    refine lv_aload_n hx hb dX8_back_44 rfl (lv_at hl 0 rfl) ?_
    refine va_get (D := D) (ci := 6) (v := .int v_states) (C := RX8) (T := TX8) (N := 17) hx hb hts (fun _ h => (List.mem_cons_of_mem _ (List.mem_append_right _ h))) hown hK hP 0 rfl rfl 2 (by decide) (hts (.fieldLink RX8 43 "FloatBoxesModel" "states" "I") (List.mem_cons_of_mem _ (List.mem_append_left _ (List.mem_of_getElem? (i := 0) rfl)))) (fun _ h9 => h9) rfl dX8_back_45 ?_
    refine lv_imul hx hb dX8_back_48 ?_
    refine lv_iload_n hx hb dX8_back_49 rfl (lv_at hl 1 rfl) ?_
    refine lv_iadd hx hb dX8_back_50 ?_
    obtain ⟨h51, hf⟩ := o_in_go hf
    refine va_iald hx hb hK hP 1 0 rfl rfl h51 dX8_back_51 ?_
    obtain ⟨h52, hf⟩ := o_in_go hf
    refine va_iast hx hb hK hP hD hS 2 0 rfl rfl h52 dX8_back_52 (fun H locs hP hD hS => ?_)
    replace hP : va_P D vwCl (ww_X8_back cI cM a_this a_this_all a_this_past a_this_refused a_this_box a_this_row a_this_text a_this_numbers a_this_before v_states v_empty v_cut v_rowMany v_taken v_found v_textLong v_at v_stopped v_past (upd v_all x1.toNatClampNeg (v_past ((38 * v_states) + x1).toNatClampNeg)) v_refused) H := hP
    replace hD : va_D A (ww_X8_back cI cM a_this a_this_all a_this_past a_this_refused a_this_box a_this_row a_this_text a_this_numbers a_this_before v_states v_empty v_cut v_rowMany v_taken v_found v_textLong v_at v_stopped v_past (upd v_all x1.toNatClampNeg (v_past ((38 * v_states) + x1).toNatClampNeg)) v_refused) := hD
    refine lv_iinc (v := x1 + 1) (lv' := [(1, .int (x1 + 1)), (0, .ref a_this)]) hx hb dX8_back_53 hl (k := 1) rfl rfl (by decide) rfl (fun ls hl => ?_)
    refine lv_goto (tgt := 27) hx hb dX8_back_56 (by decide) ?_
    exact hk27 v_states (upd v_all x1.toNatClampNeg (v_past ((38 * v_states) + x1).toNatClampNeg)) v_refused (x1 + 1) H locs ls hf hP hD hS (lv_sub hl [1, 0] rfl)
set_option maxHeartbeats 4000000 in
set_option maxRecDepth 100000 in
theorem w_X8_back_L27 {p : Program} {l : Launch} {e : Env} {s : State} {m : MethodId} {args : Array Value} {below : List Frame} {meth : Method} {c : Code} {D : va_G} {cI cM : ClassId} {A : Nat → Prop} {a_this a_this_all a_this_past a_this_refused a_this_box a_this_row a_this_text a_this_numbers a_this_before : Nat} {v_empty : Int32} {v_cut : Int32} {v_rowMany : Int32} {v_taken : Int32} {v_found : Int32} {v_textLong : Int32} {v_at : Int32} {v_stopped : Int32} {N : Nat} {v_past : Nat → Int32} {r : Int32} {o_states : Int32} {o_all : Nat → Int32} {o_refused : Nat → Int32} (C0 : g_cx cX8_back (some .int) 2 RX8 wsX8_back p s m args meth c) (hA : ∀ q, s.heap.size ≤ q → A q) (hK : va_K D vwCl (g_tys cI cM) s) : ∀ n : Nat, ∀ (v_states : Int32) (v_all : Nat → Int32) (v_refused : Nat → Int32) (x1 : Int32) (H : Heap) (locs : List Loc) (ls : Array Slot), f_X8_back_L27 N v_past n v_states v_all v_refused x1 = some (r, o_states, o_all, o_refused) → va_P D vwCl (ww_X8_back cI cM a_this a_this_all a_this_past a_this_refused a_this_box a_this_row a_this_text a_this_numbers a_this_before v_states v_empty v_cut v_rowMany v_taken v_found v_textLong v_at v_stopped v_past v_all v_refused) H → va_D A (ww_X8_back cI cM a_this a_this_all a_this_past a_this_refused a_this_box a_this_row a_this_text a_this_numbers a_this_before v_states v_empty v_cut v_rowMany v_taken v_found v_textLong v_at v_stopped v_past v_all v_refused) → va_S A s.heap H locs → lv_has ls 2 [(0, .ref a_this), (1, .int x1)] → W p l e rm_X8_back s m args below meth c H locs 0 0 (MQ below (g_QI D (g_tys cI cM) A (ww_X8_back cI cM a_this a_this_all a_this_past a_this_refused a_this_box a_this_row a_this_text a_this_numbers a_this_before o_states v_empty v_cut v_rowMany v_taken v_found v_textLong v_at v_stopped v_past o_all o_refused) r) args s 0 0 A) (F0 m 27 ls []) := by
  intro n
  induction n with
  | zero =>
    intro v_states v_all v_refused x1 H locs ls hf
    exact absurd hf (fun h => nomatch h)
  | succ n ih =>
    intro v_states v_all v_refused x1 H locs ls hf
    exact w_X8_back_C27 C0 hA hK _ ih v_states v_all v_refused x1 H locs ls hf
def f_X8_back (N : Nat) (v_past : Nat → Int32) (v_states : Int32) (v_all : Nat → Int32) (v_refused : Nat → Int32) : Option (Int32 × Int32 × (Nat → Int32) × (Nat → Int32)) :=
  if v_states = 0 then
    o_b2 (f_X8_refuses v_refused ((-2139095051))) (fun (r11 : Int32) (v_refused_11 : Nat → Int32) =>
    some (r11, v_states, v_all, v_refused_11))
  else
    f_X8_back_L27 N v_past N (v_states - 1) v_all v_refused 0
set_option maxHeartbeats 4000000 in
set_option maxRecDepth 100000 in
theorem w_X8_back_B0 {p : Program} {l : Launch} {e : Env} {s : State} {m : MethodId} {args : Array Value} {below : List Frame} {meth : Method} {c : Code} {D : va_G} {cI cM : ClassId} {A : Nat → Prop} {a_this a_this_all a_this_past a_this_refused a_this_box a_this_row a_this_text a_this_numbers a_this_before : Nat} {v_empty : Int32} {v_cut : Int32} {v_rowMany : Int32} {v_taken : Int32} {v_found : Int32} {v_textLong : Int32} {v_at : Int32} {v_stopped : Int32} {N : Nat} {v_past : Nat → Int32} {r : Int32} {o_states : Int32} {o_all : Nat → Int32} {o_refused : Nat → Int32} (C0 : g_cx cX8_back (some .int) 2 RX8 wsX8_back p s m args meth c) (hA : ∀ q, s.heap.size ≤ q → A q) (hK : va_K D vwCl (g_tys cI cM) s) : ∀ (v_states : Int32) (v_all : Nat → Int32) (v_refused : Nat → Int32) (H : Heap) (locs : List Loc) (ls : Array Slot), f_X8_back N v_past v_states v_all v_refused = some (r, o_states, o_all, o_refused) → va_P D vwCl (ww_X8_back cI cM a_this a_this_all a_this_past a_this_refused a_this_box a_this_row a_this_text a_this_numbers a_this_before v_states v_empty v_cut v_rowMany v_taken v_found v_textLong v_at v_stopped v_past v_all v_refused) H → va_D A (ww_X8_back cI cM a_this a_this_all a_this_past a_this_refused a_this_box a_this_row a_this_text a_this_numbers a_this_before v_states v_empty v_cut v_rowMany v_taken v_found v_textLong v_at v_stopped v_past v_all v_refused) → va_S A s.heap H locs → lv_has ls 2 [(0, .ref a_this)] → W p l e rm_X8_back s m args below meth c H locs 0 0 (MQ below (g_QI D (g_tys cI cM) A (ww_X8_back cI cM a_this a_this_all a_this_past a_this_refused a_this_box a_this_row a_this_text a_this_numbers a_this_before o_states v_empty v_cut v_rowMany v_taken v_found v_textLong v_at v_stopped v_past o_all o_refused) r) args s 0 0 A) (F0 m 0 ls []) := by
  obtain ⟨hx, hb, hr, hml, hown, hts, hlocks⟩ := id C0
  intro v_states v_all v_refused H locs ls hf hP hD hS hl
  unfold f_X8_back at hf
  refine lv_aload_n hx hb dX8_back_0 rfl (lv_at hl 0 rfl) ?_
  refine va_get (D := D) (ci := 6) (v := .int v_states) (C := RX8) (T := TX8) (N := 17) hx hb hts (fun _ h => (List.mem_cons_of_mem _ (List.mem_append_right _ h))) hown hK hP 0 rfl rfl 2 (by decide) (hts (.fieldLink RX8 43 "FloatBoxesModel" "states" "I") (List.mem_cons_of_mem _ (List.mem_append_left _ (List.mem_of_getElem? (i := 0) rfl)))) (fun _ h9 => h9) rfl dX8_back_1 ?_
  refine lv_if_ne (tgt := 15) hx hb dX8_back_4 (by decide) (fun c4 => ?_) (fun c4 => ?_)
  · replace hf := o_f c4 hf
    refine lv_aload_n hx hb dX8_back_15 rfl (lv_at hl 0 rfl) ?_
    refine lv_dup hx hb dX8_back_16 rfl ?_
    refine va_get (D := D) (ci := 6) (v := .int v_states) (C := RX8) (T := TX8) (N := 17) hx hb hts (fun _ h => (List.mem_cons_of_mem _ (List.mem_append_right _ h))) hown hK hP 0 rfl rfl 2 (by decide) (hts (.fieldLink RX8 43 "FloatBoxesModel" "states" "I") (List.mem_cons_of_mem _ (List.mem_append_left _ (List.mem_of_getElem? (i := 0) rfl)))) (fun _ h9 => h9) rfl dX8_back_17 ?_
    refine lv_iconst (v := 1) hx hb dX8_back_20 (by decide) ?_
    refine lv_isub hx hb dX8_back_21 ?_
    refine va_put (D := D) (ci := 6) (v := .int (v_states - 1)) (ty := .int) (C := RX8) (T := TX8) (N := 17) hx hb hts (fun _ h => (List.mem_cons_of_mem _ (List.mem_append_right _ h))) tyX8 tyX8_ok nmX8 hown hK hP hD hS 0 rfl rfl 2 (by decide) (hts (.fieldLink RX8 43 "FloatBoxesModel" "states" "I") (List.mem_cons_of_mem _ (List.mem_append_left _ (List.mem_of_getElem? (i := 0) rfl)))) (fun _ h9 => h9) rfl (by decide +kernel) rfl rfl (Nat.le_of_ble_eq_true rfl) dX8_back_22 (fun H locs hP hD hS => ?_)
    replace hP : va_P D vwCl (ww_X8_back cI cM a_this a_this_all a_this_past a_this_refused a_this_box a_this_row a_this_text a_this_numbers a_this_before (v_states - 1) v_empty v_cut v_rowMany v_taken v_found v_textLong v_at v_stopped v_past v_all v_refused) H := hP
    replace hD : va_D A (ww_X8_back cI cM a_this a_this_all a_this_past a_this_refused a_this_box a_this_row a_this_text a_this_numbers a_this_before (v_states - 1) v_empty v_cut v_rowMany v_taken v_found v_textLong v_at v_stopped v_past v_all v_refused) := hD
    refine lv_iconst (v := 0) hx hb dX8_back_25 (by decide) ?_
    refine lv_istore_n (lv' := [(1, .int 0), (0, .ref a_this)]) hx hb dX8_back_26 rfl hl (by decide) rfl (fun ls hl => ?_)
    exact w_X8_back_L27 C0 hA hK N (v_states - 1) v_all v_refused 0 H locs ls hf hP hD hS (lv_sub hl [1, 0] rfl)
  · replace hf := o_t c4 hf
    refine lv_aload_n hx hb dX8_back_7 rfl (lv_at hl 0 rfl) ?_
    refine lv_ldcw (v := (-2139095051)) hx hb hown (hts (.constant RX8 264 (-2139095051)) (List.mem_cons_of_mem _ (List.mem_append_left _ (List.mem_of_getElem? (i := 1) rfl)))) dX8_back_8 ?_
    obtain ⟨r11, v_refused_11, hg11, hf⟩ := o_b2_go hf
    refine g_callVi (wn := (ww_X8_back cI cM a_this a_this_all a_this_past a_this_refused a_this_box a_this_row a_this_text a_this_numbers a_this_before v_states v_empty v_cut v_rowMany v_taken v_found v_textLong v_at v_stopped v_past v_all v_refused_11)) (rest := []) ⟨hx, hb, hml, hown, hts⟩ (c_X8_refuses l D cI cM a_this a_this_all a_this_past a_this_refused a_this_box a_this_row a_this_text a_this_numbers a_this_before H.size v_states v_empty v_cut v_rowMany v_taken v_found v_textLong v_at v_stopped v_refused hg11) (cwV 1 hts gX8_back_X8_refuses rfl rfl rfl (by decide +kernel) ⟨Nat.le_of_ble_eq_true rfl, Nat.le_of_ble_eq_true rfl⟩) hK hP hD hS hA [0, 3] [1, 2] [2, 0, 1, 3] rfl rfl rfl rfl rfl rfl (by decide) rfl rfl rfl hl.1 rfl (Nat.le_of_ble_eq_true rfl) dX8_back_11 (fun H locs hP hD hS => ?_)
    obtain ⟨q0, y0⟩ := o_rp hf
    obtain ⟨q1, y1⟩ := o_rp y0
    obtain ⟨q2, y2⟩ := o_rp y1
    have q3 := Option.some.inj y2
    subst q0 q1 q2 q3
    exact g_iret hx hb hr hlocks hP hD hK hS dX8_back_14
set_option maxHeartbeats 4000000 in
set_option maxRecDepth 100000 in
theorem c_X8_back (l : Launch) (D : va_G) (cI cM : ClassId) (a_this a_this_all a_this_past a_this_refused a_this_box a_this_row a_this_text a_this_numbers a_this_before : Nat) (sz : Nat) (v_states : Int32) (v_empty : Int32) (v_cut : Int32) (v_rowMany : Int32) (v_taken : Int32) (v_found : Int32) (v_textLong : Int32) (v_at : Int32) (v_stopped : Int32) (v_past : Nat → Int32) (v_all : Nat → Int32) (v_refused : Nat → Int32) {N : Nat} {r : Int32} {o_states : Int32} {o_all : Nat → Int32} {o_refused : Nat → Int32} (hf : f_X8_back N v_past v_states v_all v_refused = some (r, o_states, o_all, o_refused)) : Met l yX8_back wsX8_back rm_X8_back (g_Pc D (g_tys cI cM) (ww_X8_back cI cM a_this a_this_all a_this_past a_this_refused a_this_box a_this_row a_this_text a_this_numbers a_this_before v_states v_empty v_cut v_rowMany v_taken v_found v_textLong v_at v_stopped v_past v_all v_refused) sz [.ref a_this]) (g_QI D (g_tys cI cM) (va_A (ww_X8_back cI cM a_this a_this_all a_this_past a_this_refused a_this_box a_this_row a_this_text a_this_numbers a_this_before v_states v_empty v_cut v_rowMany v_taken v_found v_textLong v_at v_stopped v_past v_all v_refused) sz) (ww_X8_back cI cM a_this a_this_all a_this_past a_this_refused a_this_box a_this_row a_this_text a_this_numbers a_this_before o_states v_empty v_cut v_rowMany v_taken v_found v_textLong v_at v_stopped v_past o_all o_refused) r) 0 0 (va_A (ww_X8_back cI cM a_this a_this_all a_this_past a_this_refused a_this_box a_this_row a_this_text a_this_numbers a_this_before v_states v_empty v_cut v_rowMany v_taken v_found v_textLong v_at v_stopped v_past v_all v_refused) sz) := by
  refine g_met (cc := cX8_back) (maxL := 2) (ret := (some .int)) (Qc := fun D A => g_QI D (g_tys cI cM) A (ww_X8_back cI cM a_this a_this_all a_this_past a_this_refused a_this_box a_this_row a_this_text a_this_numbers a_this_before o_states v_empty v_cut v_rowMany v_taken v_found v_textLong v_at v_stopped v_past o_all o_refused) r) (by decide) rfl ?_
  intro p e s m below meth c A C0 hA hK hP hD
  have hl := lv_entry ([.ref a_this]) (n := 2) (Nat.le_of_ble_eq_true rfl)
  rw [lg_entry_eq]
  generalize (lg_sl ([.ref a_this]) ++ List.replicate (2 - (lg_sl ([.ref a_this])).length) Slot.unset).toArray = ls at hl ⊢
  have hl : lv_has ls 2 [(0, .ref a_this)] := hl
  exact w_X8_back_B0 C0 hA hK v_states v_all v_refused s.heap [] ls hf hP hD va_S.rf (lv_sub hl [0] rfl)
/-! FloatBoxesModel.toldOf(I)I -/
abbrev rm_X8_toldOf : Room := { frames := 1, cells := 0, slots := 0, locals := 20 }
abbrev ww_X8_toldOf (cI cM : ClassId) (a_this a_this_all a_this_past a_this_refused a_this_box a_this_row a_this_text a_this_numbers a_this_before : Nat) (v_states : Int32) (v_empty : Int32) (v_cut : Int32) (v_rowMany : Int32) (v_taken : Int32) (v_found : Int32) (v_textLong : Int32) (v_at : Int32) (v_stopped : Int32) (v_all : Nat → Int32) (v_refused : Nat → Int32) : va_W := [(a_this, .inr (6, [.ref a_this_all, .ref a_this_past, .int v_states, .ref a_this_refused, .ref a_this_box, .int v_empty, .int v_cut, .ref a_this_row, .int v_rowMany, .int v_taken, .int v_found, .ref a_this_text, .int v_textLong, .int v_at, .ref a_this_numbers, .int v_stopped, .ref a_this_before])), (a_this_all, .inl (cI, 38, .inl v_all)), (a_this_refused, .inl (cI, 3, .inl v_refused))]
def f_X8_toldOf (v_states : Int32) (v_textLong : Int32) (v_all : Nat → Int32) (v_refused : Nat → Int32) (x1 : Int32) : Option (Int32) :=
  if 3 ≤ x1 then
    if x1 = 3 then
      some v_textLong
    else
      if x1 = 4 then
        o_b1 (f_X8_unknowns v_all) (fun (r32 : Int32) =>
        some r32)
      else
        if x1 = 5 then
          o_b1 (f_X8_rules v_all) (fun (r44 : Int32) =>
          some r44)
        else
          some v_states
  else
    o_in x1 3 (
    some (v_refused x1.toNatClampNeg))
set_option maxHeartbeats 4000000 in
set_option maxRecDepth 100000 in
theorem w_X8_toldOf_B0 {p : Program} {l : Launch} {e : Env} {s : State} {m : MethodId} {args : Array Value} {below : List Frame} {meth : Method} {c : Code} {D : va_G} {cI cM : ClassId} {A : Nat → Prop} {a_this a_this_all a_this_past a_this_refused a_this_box a_this_row a_this_text a_this_numbers a_this_before : Nat} {v_empty : Int32} {v_cut : Int32} {v_rowMany : Int32} {v_taken : Int32} {v_found : Int32} {v_at : Int32} {v_stopped : Int32} {v_states : Int32} {v_textLong : Int32} {v_all : Nat → Int32} {v_refused : Nat → Int32} {r : Int32} (C0 : g_cx cX8_toldOf (some .int) 2 RX8 wsX8_toldOf p s m args meth c) (hA : ∀ q, s.heap.size ≤ q → A q) (hK : va_K D vwCl (g_tys cI cM) s) : ∀ (x1 : Int32) (H : Heap) (locs : List Loc) (ls : Array Slot), f_X8_toldOf v_states v_textLong v_all v_refused x1 = some r → va_P D vwCl (ww_X8_toldOf cI cM a_this a_this_all a_this_past a_this_refused a_this_box a_this_row a_this_text a_this_numbers a_this_before v_states v_empty v_cut v_rowMany v_taken v_found v_textLong v_at v_stopped v_all v_refused) H → va_D A (ww_X8_toldOf cI cM a_this a_this_all a_this_past a_this_refused a_this_box a_this_row a_this_text a_this_numbers a_this_before v_states v_empty v_cut v_rowMany v_taken v_found v_textLong v_at v_stopped v_all v_refused) → va_S A s.heap H locs → lv_has ls 2 [(0, .ref a_this), (1, .int x1)] → W p l e rm_X8_toldOf s m args below meth c H locs 0 0 (MQ below (g_QI D (g_tys cI cM) A (ww_X8_toldOf cI cM a_this a_this_all a_this_past a_this_refused a_this_box a_this_row a_this_text a_this_numbers a_this_before v_states v_empty v_cut v_rowMany v_taken v_found v_textLong v_at v_stopped v_all v_refused) r) args s 0 0 A) (F0 m 0 ls []) := by
  obtain ⟨hx, hb, hr, hml, hown, hts, hlocks⟩ := id C0
  intro x1 H locs ls hf hP hD hS hl
  unfold f_X8_toldOf at hf
  refine lv_iload_n hx hb dX8_toldOf_0 rfl (lv_at hl 1 rfl) ?_
  refine lv_iconst (v := 3) hx hb dX8_toldOf_1 (by decide) ?_
  refine lv_icmp_ge (tgt := 14) hx hb dX8_toldOf_2 (by decide) (fun c2 => ?_) (fun c2 => ?_)
  · replace hf := o_t c2 hf
    refine lv_iload_n hx hb dX8_toldOf_14 rfl (lv_at hl 1 rfl) ?_
    refine lv_iconst (v := 3) hx hb dX8_toldOf_15 (by decide) ?_
    refine lv_icmp_ne (tgt := 26) hx hb dX8_toldOf_16 (by decide) (fun c16 => ?_) (fun c16 => ?_)
    · replace hf := o_f c16 hf
      refine lv_iload_n hx hb dX8_toldOf_26 rfl (lv_at hl 1 rfl) ?_
      refine lv_iconst (v := 4) hx hb dX8_toldOf_27 (by decide) ?_
      refine lv_icmp_ne (tgt := 38) hx hb dX8_toldOf_28 (by decide) (fun c28 => ?_) (fun c28 => ?_)
      · replace hf := o_f c28 hf
        refine lv_iload_n hx hb dX8_toldOf_38 rfl (lv_at hl 1 rfl) ?_
        refine lv_iconst (v := 5) hx hb dX8_toldOf_39 (by decide) ?_
        refine lv_icmp_ne (tgt := 50) hx hb dX8_toldOf_40 (by decide) (fun c40 => ?_) (fun c40 => ?_)
        · replace hf := o_f c40 hf
          refine lv_aload_n hx hb dX8_toldOf_50 rfl (lv_at hl 0 rfl) ?_
          refine va_get (D := D) (ci := 6) (v := .int v_states) (C := RX8) (T := TX8) (N := 17) hx hb hts (fun _ h => (List.mem_cons_of_mem _ (List.mem_append_right _ h))) hown hK hP 0 rfl rfl 2 (by decide) (hts (.fieldLink RX8 43 "FloatBoxesModel" "states" "I") (List.mem_cons_of_mem _ (List.mem_append_left _ (List.mem_of_getElem? (i := 2) rfl)))) (fun _ h9 => h9) rfl dX8_toldOf_51 ?_
          have q0 := Option.some.inj hf
          subst q0
          exact g_iret hx hb hr hlocks hP hD hK hS dX8_toldOf_54
        · replace hf := o_t c40 hf
          refine lv_aload_n hx hb dX8_toldOf_43 rfl (lv_at hl 0 rfl) ?_
          obtain ⟨r44, hg44, hf⟩ := o_b1_go hf
          refine g_callVi (wn := (ww_X8_toldOf cI cM a_this a_this_all a_this_past a_this_refused a_this_box a_this_row a_this_text a_this_numbers a_this_before v_states v_empty v_cut v_rowMany v_taken v_found v_textLong v_at v_stopped v_all v_refused)) (rest := []) ⟨hx, hb, hml, hown, hts⟩ (c_X8_rules l D cI cM a_this a_this_all a_this_past a_this_refused a_this_box a_this_row a_this_text a_this_numbers a_this_before H.size v_states v_empty v_cut v_rowMany v_taken v_found v_textLong v_at v_stopped v_all hg44) (cwV 0 hts gX8_toldOf_X8_rules rfl rfl rfl (by decide +kernel) ⟨Nat.le_of_ble_eq_true rfl, Nat.le_of_ble_eq_true rfl⟩) hK hP hD hS hA [0, 1] [2] [1, 2, 0] rfl rfl rfl rfl rfl rfl (by decide) rfl rfl rfl hl.1 rfl (Nat.le_of_ble_eq_true rfl) dX8_toldOf_44 (fun H locs hP hD hS => ?_)
          refine lv_goto (tgt := 54) hx hb dX8_toldOf_47 (by decide) ?_
          have q0 := Option.some.inj hf
          subst q0
          exact g_iret hx hb hr hlocks hP hD hK hS dX8_toldOf_54
      · replace hf := o_t c28 hf
        refine lv_aload_n hx hb dX8_toldOf_31 rfl (lv_at hl 0 rfl) ?_
        obtain ⟨r32, hg32, hf⟩ := o_b1_go hf
        refine g_callVi (wn := (ww_X8_toldOf cI cM a_this a_this_all a_this_past a_this_refused a_this_box a_this_row a_this_text a_this_numbers a_this_before v_states v_empty v_cut v_rowMany v_taken v_found v_textLong v_at v_stopped v_all v_refused)) (rest := []) ⟨hx, hb, hml, hown, hts⟩ (c_X8_unknowns l D cI cM a_this a_this_all a_this_past a_this_refused a_this_box a_this_row a_this_text a_this_numbers a_this_before H.size v_states v_empty v_cut v_rowMany v_taken v_found v_textLong v_at v_stopped v_all hg32) (cwV 0 hts gX8_toldOf_X8_unknowns rfl rfl rfl (by decide +kernel) ⟨Nat.le_of_ble_eq_true rfl, Nat.le_of_ble_eq_true rfl⟩) hK hP hD hS hA [0, 1] [2] [1, 2, 0] rfl rfl rfl rfl rfl rfl (by decide) rfl rfl rfl hl.1 rfl (Nat.le_of_ble_eq_true rfl) dX8_toldOf_32 (fun H locs hP hD hS => ?_)
        refine lv_goto (tgt := 54) hx hb dX8_toldOf_35 (by decide) ?_
        have q0 := Option.some.inj hf
        subst q0
        exact g_iret hx hb hr hlocks hP hD hK hS dX8_toldOf_54
    · replace hf := o_t c16 hf
      refine lv_aload_n hx hb dX8_toldOf_19 rfl (lv_at hl 0 rfl) ?_
      refine va_get (D := D) (ci := 6) (v := .int v_textLong) (C := RX8) (T := TX8) (N := 17) hx hb hts (fun _ h => (List.mem_cons_of_mem _ (List.mem_append_right _ h))) hown hK hP 0 rfl rfl 12 (by decide) (hts (.fieldLink RX8 277 "FloatBoxesModel" "textLong" "I") (List.mem_cons_of_mem _ (List.mem_append_left _ (List.mem_of_getElem? (i := 1) rfl)))) (fun _ h9 => h9) rfl dX8_toldOf_20 ?_
      refine lv_goto (tgt := 54) hx hb dX8_toldOf_23 (by decide) ?_
      have q0 := Option.some.inj hf
      subst q0
      exact g_iret hx hb hr hlocks hP hD hK hS dX8_toldOf_54
  · replace hf := o_f c2 hf
    refine lv_aload_n hx hb dX8_toldOf_5 rfl (lv_at hl 0 rfl) ?_
    refine va_get (D := D) (ci := 6) (v := .ref a_this_refused) (C := RX8) (T := TX8) (N := 17) hx hb hts (fun _ h => (List.mem_cons_of_mem _ (List.mem_append_right _ h))) hown hK hP 0 rfl rfl 3 (by decide) (hts (.fieldLink RX8 16 "FloatBoxesModel" "refused" "[I") (List.mem_cons_of_mem _ (List.mem_append_left _ (List.mem_of_getElem? (i := 0) rfl)))) (fun _ h9 => h9) rfl dX8_toldOf_6 ?_
    refine lv_iload_n hx hb dX8_toldOf_9 rfl (lv_at hl 1 rfl) ?_
    obtain ⟨h10, hf⟩ := o_in_go hf
    refine va_iald hx hb hK hP 2 0 rfl rfl h10 dX8_toldOf_10 ?_
    refine lv_goto (tgt := 54) hx hb dX8_toldOf_11 (by decide) ?_
    have q0 := Option.some.inj hf
    subst q0
    exact g_iret hx hb hr hlocks hP hD hK hS dX8_toldOf_54
set_option maxHeartbeats 4000000 in
set_option maxRecDepth 100000 in
theorem c_X8_toldOf (l : Launch) (D : va_G) (cI cM : ClassId) (a_this a_this_all a_this_past a_this_refused a_this_box a_this_row a_this_text a_this_numbers a_this_before : Nat) (sz : Nat) (v_states : Int32) (v_empty : Int32) (v_cut : Int32) (v_rowMany : Int32) (v_taken : Int32) (v_found : Int32) (v_textLong : Int32) (v_at : Int32) (v_stopped : Int32) (v_all : Nat → Int32) (v_refused : Nat → Int32) {x1 : Int32} {r : Int32} (hf : f_X8_toldOf v_states v_textLong v_all v_refused x1 = some r) : Met l yX8_toldOf wsX8_toldOf rm_X8_toldOf (g_Pc D (g_tys cI cM) (ww_X8_toldOf cI cM a_this a_this_all a_this_past a_this_refused a_this_box a_this_row a_this_text a_this_numbers a_this_before v_states v_empty v_cut v_rowMany v_taken v_found v_textLong v_at v_stopped v_all v_refused) sz [.ref a_this, .int x1]) (g_QI D (g_tys cI cM) (va_A (ww_X8_toldOf cI cM a_this a_this_all a_this_past a_this_refused a_this_box a_this_row a_this_text a_this_numbers a_this_before v_states v_empty v_cut v_rowMany v_taken v_found v_textLong v_at v_stopped v_all v_refused) sz) (ww_X8_toldOf cI cM a_this a_this_all a_this_past a_this_refused a_this_box a_this_row a_this_text a_this_numbers a_this_before v_states v_empty v_cut v_rowMany v_taken v_found v_textLong v_at v_stopped v_all v_refused) r) 0 0 (va_A (ww_X8_toldOf cI cM a_this a_this_all a_this_past a_this_refused a_this_box a_this_row a_this_text a_this_numbers a_this_before v_states v_empty v_cut v_rowMany v_taken v_found v_textLong v_at v_stopped v_all v_refused) sz) := by
  refine g_met (cc := cX8_toldOf) (maxL := 2) (ret := (some .int)) (Qc := fun D A => g_QI D (g_tys cI cM) A (ww_X8_toldOf cI cM a_this a_this_all a_this_past a_this_refused a_this_box a_this_row a_this_text a_this_numbers a_this_before v_states v_empty v_cut v_rowMany v_taken v_found v_textLong v_at v_stopped v_all v_refused) r) (by decide) rfl ?_
  intro p e s m below meth c A C0 hA hK hP hD
  have hl := lv_entry ([.ref a_this, .int x1]) (n := 2) (Nat.le_of_ble_eq_true rfl)
  rw [lg_entry_eq]
  generalize (lg_sl ([.ref a_this, .int x1]) ++ List.replicate (2 - (lg_sl ([.ref a_this, .int x1])).length) Slot.unset).toArray = ls at hl ⊢
  have hl : lv_has ls 2 [(0, .ref a_this), (1, .int x1)] := hl
  exact w_X8_toldOf_B0 C0 hA hK x1 s.heap [] ls hf hP hD va_S.rf (lv_sub hl [0, 1] rfl)
/-! FloatBoxesModel.told(I)I -/
abbrev rm_X8_told : Room := { frames := 2, cells := 0, slots := 0, locals := 41 }
abbrev ww_X8_told (cI cM : ClassId) (a_this a_this_all a_this_past a_this_refused a_this_box a_this_row a_this_text a_this_numbers a_this_before : Nat) (v_states : Int32) (v_empty : Int32) (v_cut : Int32) (v_rowMany : Int32) (v_taken : Int32) (v_found : Int32) (v_textLong : Int32) (v_at : Int32) (v_stopped : Int32) (v_refused : Nat → Int32) (v_all : Nat → Int32) : va_W := [(a_this, .inr (6, [.ref a_this_all, .ref a_this_past, .int v_states, .ref a_this_refused, .ref a_this_box, .int v_empty, .int v_cut, .ref a_this_row, .int v_rowMany, .int v_taken, .int v_found, .ref a_this_text, .int v_textLong, .int v_at, .ref a_this_numbers, .int v_stopped, .ref a_this_before])), (a_this_refused, .inl (cI, 3, .inl v_refused)), (a_this_all, .inl (cI, 38, .inl v_all))]
def f_X8_told (v_states : Int32) (v_textLong : Int32) (v_all : Nat → Int32) (v_refused : Nat → Int32) (x1 : Int32) : Option (Int32 × (Nat → Int32)) :=
  o_b1 (f_X8_in x1.toInt64 0 6) (fun (r6 : Int32) =>
  if r6 = 0 then
    o_b2 (f_X8_refuses v_refused ((-2139095050))) (fun (r23 : Int32) (v_refused_23 : Nat → Int32) =>
    some (r23, v_refused_23))
  else
    o_b1 (f_X8_toldOf v_states v_textLong v_all v_refused x1) (fun (r14 : Int32) =>
    some (r14, v_refused)))
set_option maxHeartbeats 4000000 in
set_option maxRecDepth 100000 in
theorem w_X8_told_B0 {p : Program} {l : Launch} {e : Env} {s : State} {m : MethodId} {args : Array Value} {below : List Frame} {meth : Method} {c : Code} {D : va_G} {cI cM : ClassId} {A : Nat → Prop} {a_this a_this_all a_this_past a_this_refused a_this_box a_this_row a_this_text a_this_numbers a_this_before : Nat} {v_empty : Int32} {v_cut : Int32} {v_rowMany : Int32} {v_taken : Int32} {v_found : Int32} {v_at : Int32} {v_stopped : Int32} {v_states : Int32} {v_textLong : Int32} {v_all : Nat → Int32} {r : Int32} {o_refused : Nat → Int32} (C0 : g_cx cX8_told (some .int) 2 RX8 wsX8_told p s m args meth c) (hA : ∀ q, s.heap.size ≤ q → A q) (hK : va_K D vwCl (g_tys cI cM) s) : ∀ (v_refused : Nat → Int32) (x1 : Int32) (H : Heap) (locs : List Loc) (ls : Array Slot), f_X8_told v_states v_textLong v_all v_refused x1 = some (r, o_refused) → va_P D vwCl (ww_X8_told cI cM a_this a_this_all a_this_past a_this_refused a_this_box a_this_row a_this_text a_this_numbers a_this_before v_states v_empty v_cut v_rowMany v_taken v_found v_textLong v_at v_stopped v_refused v_all) H → va_D A (ww_X8_told cI cM a_this a_this_all a_this_past a_this_refused a_this_box a_this_row a_this_text a_this_numbers a_this_before v_states v_empty v_cut v_rowMany v_taken v_found v_textLong v_at v_stopped v_refused v_all) → va_S A s.heap H locs → lv_has ls 2 [(0, .ref a_this), (1, .int x1)] → W p l e rm_X8_told s m args below meth c H locs 0 0 (MQ below (g_QI D (g_tys cI cM) A (ww_X8_told cI cM a_this a_this_all a_this_past a_this_refused a_this_box a_this_row a_this_text a_this_numbers a_this_before v_states v_empty v_cut v_rowMany v_taken v_found v_textLong v_at v_stopped o_refused v_all) r) args s 0 0 A) (F0 m 0 ls []) := by
  obtain ⟨hx, hb, hr, hml, hown, hts, hlocks⟩ := id C0
  intro v_refused x1 H locs ls hf hP hD hS hl
  unfold f_X8_told at hf
  refine lv_iload_n hx hb dX8_told_0 rfl (lv_at hl 1 rfl) ?_
  refine lv_i2l hx hb dX8_told_1 rfl ?_
  refine lv_lconst (v := 0) hx hb dX8_told_2 (by decide) ?_
  refine lv_ldc2 (v := 6) hx hb hown (hts (.constantLong RX8 313 (6)) (List.mem_cons_of_mem _ (List.mem_append_left _ (List.mem_append_left _ (List.mem_of_getElem? (i := 0) rfl))))) dX8_told_3 ?_
  obtain ⟨r6, hg6, hf⟩ := o_b1_go hf
  refine g_callSi (rest := []) ⟨hx, hb, hml, hown, hts⟩ (c_X8_in l hg6) (va_cwS 3 hts gX8_told_X8_in rfl rfl rfl (by decide +kernel) ⟨Nat.le_of_ble_eq_true rfl, Nat.le_of_ble_eq_true rfl⟩) rfl hl.1 rfl (Nat.le_of_ble_eq_true rfl) dX8_told_6 ?_
  refine lv_if_eq (tgt := 20) hx hb dX8_told_9 (by decide) (fun c9 => ?_) (fun c9 => ?_)
  · replace hf := o_t c9 hf
    refine lv_aload_n hx hb dX8_told_20 rfl (lv_at hl 0 rfl) ?_
    refine lv_ldc (v := (-2139095050)) hx hb hown (hts (.constant RX8 42 (-2139095050)) (List.mem_cons_of_mem _ (List.mem_append_left _ (List.mem_append_left _ (List.mem_of_getElem? (i := 1) rfl))))) dX8_told_21 ?_
    obtain ⟨r23, v_refused_23, hg23, hf⟩ := o_b2_go hf
    refine g_callVi (wn := (ww_X8_told cI cM a_this a_this_all a_this_past a_this_refused a_this_box a_this_row a_this_text a_this_numbers a_this_before v_states v_empty v_cut v_rowMany v_taken v_found v_textLong v_at v_stopped v_refused_23 v_all)) (rest := []) ⟨hx, hb, hml, hown, hts⟩ (c_X8_refuses l D cI cM a_this a_this_all a_this_past a_this_refused a_this_box a_this_row a_this_text a_this_numbers a_this_before H.size v_states v_empty v_cut v_rowMany v_taken v_found v_textLong v_at v_stopped v_refused hg23) (cwV 1 hts gX8_told_X8_refuses rfl rfl rfl (by decide +kernel) ⟨Nat.le_of_ble_eq_true rfl, Nat.le_of_ble_eq_true rfl⟩) hK hP hD hS hA [0, 1] [2] [1, 2, 0] rfl rfl rfl rfl rfl rfl (by decide) rfl rfl rfl hl.1 rfl (Nat.le_of_ble_eq_true rfl) dX8_told_23 (fun H locs hP hD hS => ?_)
    obtain ⟨q0, y0⟩ := o_rp hf
    have q1 := Option.some.inj y0
    subst q0 q1
    exact g_iret hx hb hr hlocks hP hD hK hS dX8_told_26
  · replace hf := o_f c9 hf
    refine lv_aload_n hx hb dX8_told_12 rfl (lv_at hl 0 rfl) ?_
    refine lv_iload_n hx hb dX8_told_13 rfl (lv_at hl 1 rfl) ?_
    obtain ⟨r14, hg14, hf⟩ := o_b1_go hf
    refine g_callVi (wn := (ww_X8_told cI cM a_this a_this_all a_this_past a_this_refused a_this_box a_this_row a_this_text a_this_numbers a_this_before v_states v_empty v_cut v_rowMany v_taken v_found v_textLong v_at v_stopped v_refused v_all)) (rest := []) ⟨hx, hb, hml, hown, hts⟩ (c_X8_toldOf l D cI cM a_this a_this_all a_this_past a_this_refused a_this_box a_this_row a_this_text a_this_numbers a_this_before H.size v_states v_empty v_cut v_rowMany v_taken v_found v_textLong v_at v_stopped v_all v_refused hg14) (cwV 1 hts gX8_told_X8_toldOf rfl rfl rfl (by decide +kernel) ⟨Nat.le_of_ble_eq_true rfl, Nat.le_of_ble_eq_true rfl⟩) hK hP hD hS hA [0, 2, 1] [] [0, 2, 1] rfl rfl rfl rfl rfl rfl (by decide) rfl rfl rfl hl.1 rfl (Nat.le_of_ble_eq_true rfl) dX8_told_14 (fun H locs hP hD hS => ?_)
    refine lv_goto (tgt := 26) hx hb dX8_told_17 (by decide) ?_
    obtain ⟨q0, y0⟩ := o_rp hf
    have q1 := Option.some.inj y0
    subst q0 q1
    exact g_iret hx hb hr hlocks hP hD hK hS dX8_told_26
set_option maxHeartbeats 4000000 in
set_option maxRecDepth 100000 in
theorem c_X8_told (l : Launch) (D : va_G) (cI cM : ClassId) (a_this a_this_all a_this_past a_this_refused a_this_box a_this_row a_this_text a_this_numbers a_this_before : Nat) (sz : Nat) (v_states : Int32) (v_empty : Int32) (v_cut : Int32) (v_rowMany : Int32) (v_taken : Int32) (v_found : Int32) (v_textLong : Int32) (v_at : Int32) (v_stopped : Int32) (v_refused : Nat → Int32) (v_all : Nat → Int32) {x1 : Int32} {r : Int32} {o_refused : Nat → Int32} (hf : f_X8_told v_states v_textLong v_all v_refused x1 = some (r, o_refused)) : Met l yX8_told wsX8_told rm_X8_told (g_Pc D (g_tys cI cM) (ww_X8_told cI cM a_this a_this_all a_this_past a_this_refused a_this_box a_this_row a_this_text a_this_numbers a_this_before v_states v_empty v_cut v_rowMany v_taken v_found v_textLong v_at v_stopped v_refused v_all) sz [.ref a_this, .int x1]) (g_QI D (g_tys cI cM) (va_A (ww_X8_told cI cM a_this a_this_all a_this_past a_this_refused a_this_box a_this_row a_this_text a_this_numbers a_this_before v_states v_empty v_cut v_rowMany v_taken v_found v_textLong v_at v_stopped v_refused v_all) sz) (ww_X8_told cI cM a_this a_this_all a_this_past a_this_refused a_this_box a_this_row a_this_text a_this_numbers a_this_before v_states v_empty v_cut v_rowMany v_taken v_found v_textLong v_at v_stopped o_refused v_all) r) 0 0 (va_A (ww_X8_told cI cM a_this a_this_all a_this_past a_this_refused a_this_box a_this_row a_this_text a_this_numbers a_this_before v_states v_empty v_cut v_rowMany v_taken v_found v_textLong v_at v_stopped v_refused v_all) sz) := by
  refine g_met (cc := cX8_told) (maxL := 2) (ret := (some .int)) (Qc := fun D A => g_QI D (g_tys cI cM) A (ww_X8_told cI cM a_this a_this_all a_this_past a_this_refused a_this_box a_this_row a_this_text a_this_numbers a_this_before v_states v_empty v_cut v_rowMany v_taken v_found v_textLong v_at v_stopped o_refused v_all) r) (by decide) rfl ?_
  intro p e s m below meth c A C0 hA hK hP hD
  have hl := lv_entry ([.ref a_this, .int x1]) (n := 2) (Nat.le_of_ble_eq_true rfl)
  rw [lg_entry_eq]
  generalize (lg_sl ([.ref a_this, .int x1]) ++ List.replicate (2 - (lg_sl ([.ref a_this, .int x1])).length) Slot.unset).toArray = ls at hl ⊢
  have hl : lv_has ls 2 [(0, .ref a_this), (1, .int x1)] := hl
  exact w_X8_told_B0 C0 hA hK v_refused x1 s.heap [] ls hf hP hD va_S.rf (lv_sub hl [0, 1] rfl)
/-! FloatBoxesModel.digest()J -/
abbrev rm_X8_digest : Room := { frames := 6, cells := 0, slots := 0, locals := 130 }
abbrev ww_X8_digest (cI cM : ClassId) (a_this a_this_all a_this_past a_this_refused a_this_box a_this_row a_this_text a_this_numbers a_this_before : Nat) (v_states : Int32) (v_empty : Int32) (v_cut : Int32) (v_rowMany : Int32) (v_taken : Int32) (v_found : Int32) (v_textLong : Int32) (v_at : Int32) (v_stopped : Int32) (v_all : Nat → Int32) (v_box : Nat → Int32) (v_refused : Nat → Int32) : va_W := [(a_this, .inr (6, [.ref a_this_all, .ref a_this_past, .int v_states, .ref a_this_refused, .ref a_this_box, .int v_empty, .int v_cut, .ref a_this_row, .int v_rowMany, .int v_taken, .int v_found, .ref a_this_text, .int v_textLong, .int v_at, .ref a_this_numbers, .int v_stopped, .ref a_this_before])), (a_this_all, .inl (cI, 38, .inl v_all)), (a_this_box, .inl (cI, 12, .inl v_box)), (a_this_refused, .inl (cI, 3, .inl v_refused))]
def f_X8_digest_C65 (N : Nat) (v_states : Int32) (v_textLong : Int32) (v_all : Nat → Int32) (v_refused : Nat → Int32) (k65 : Int32 → (Nat → Int32) → Int64 → Int32 → Option (Int64 × Int32 × (Nat → Int32))) (v_empty : Int32) (v_box : Nat → Int32) (x1 : Int64) (x3 : Int32) : Option (Int64 × Int32 × (Nat → Int32)) :=
  o_b1 (f_X8_rules v_all) (fun (r68 : Int32) =>
  if (4 * r68) ≤ x3 then
    o_b2 (f_X8_laysBox N v_all v_empty v_box) (fun (v_empty_99 : Int32) (v_box_99 : Nat → Int32) =>
    o_b1 (f_X8_allHold N v_all v_box_99) (fun (r108 : Int32) =>
    if r108 = 0 then
      some ((31 * x1) + ((0 : Int32).toInt64), v_empty_99, v_box_99)
    else
      some ((31 * x1) + ((1 : Int32).toInt64), v_empty_99, v_box_99)))
  else
    o_in (14 + x3) 38 (
    o_nm ((31 * x1) + ((v_all (14 + x3).toNatClampNeg).toInt64)) (fun (t91 : Int64) =>
    k65 v_empty v_box t91 (x3 + 1))))
def f_X8_digest_L65 (N : Nat) (v_states : Int32) (v_textLong : Int32) (v_all : Nat → Int32) (v_refused : Nat → Int32) : Nat → Int32 → (Nat → Int32) → Int64 → Int32 → Option (Int64 × Int32 × (Nat → Int32))
  | 0 => fun _ _ _ _ => none
  | n + 1 => f_X8_digest_C65 N v_states v_textLong v_all v_refused (f_X8_digest_L65 N v_states v_textLong v_all v_refused n)
set_option maxHeartbeats 4000000 in
set_option maxRecDepth 100000 in
theorem w_X8_digest_C65 {p : Program} {l : Launch} {e : Env} {s : State} {m : MethodId} {args : Array Value} {below : List Frame} {meth : Method} {c : Code} {D : va_G} {cI cM : ClassId} {A : Nat → Prop} {a_this a_this_all a_this_past a_this_refused a_this_box a_this_row a_this_text a_this_numbers a_this_before : Nat} {v_cut : Int32} {v_rowMany : Int32} {v_taken : Int32} {v_found : Int32} {v_at : Int32} {v_stopped : Int32} {N : Nat} {v_states : Int32} {v_textLong : Int32} {v_all : Nat → Int32} {v_refused : Nat → Int32} {r : Int64} {o_empty : Int32} {o_box : Nat → Int32} (C0 : g_cx cX8_digest (some .long) 4 RX8 wsX8_digest p s m args meth c) (hA : ∀ q, s.heap.size ≤ q → A q) (hK : va_K D vwCl (g_tys cI cM) s) (k65 : Int32 → (Nat → Int32) → Int64 → Int32 → Option (Int64 × Int32 × (Nat → Int32))) (hk65 : ∀ (v_empty : Int32) (v_box : Nat → Int32) (x1 : Int64) (x3 : Int32) (H : Heap) (locs : List Loc) (ls : Array Slot), k65 v_empty v_box x1 x3 = some (r, o_empty, o_box) → va_P D vwCl (ww_X8_digest cI cM a_this a_this_all a_this_past a_this_refused a_this_box a_this_row a_this_text a_this_numbers a_this_before v_states v_empty v_cut v_rowMany v_taken v_found v_textLong v_at v_stopped v_all v_box v_refused) H → va_D A (ww_X8_digest cI cM a_this a_this_all a_this_past a_this_refused a_this_box a_this_row a_this_text a_this_numbers a_this_before v_states v_empty v_cut v_rowMany v_taken v_found v_textLong v_at v_stopped v_all v_box v_refused) → va_S A s.heap H locs → lv_has ls 4 [(0, .ref a_this), (1, .long x1), (3, .int x3)] → W p l e rm_X8_digest s m args below meth c H locs 0 0 (MQ below (g_QL D (g_tys cI cM) A (ww_X8_digest cI cM a_this a_this_all a_this_past a_this_refused a_this_box a_this_row a_this_text a_this_numbers a_this_before v_states o_empty v_cut v_rowMany v_taken v_found v_textLong v_at v_stopped v_all o_box v_refused) r) args s 0 0 A) (F0 m 65 ls [])) : ∀ (v_empty : Int32) (v_box : Nat → Int32) (x1 : Int64) (x3 : Int32) (H : Heap) (locs : List Loc) (ls : Array Slot), f_X8_digest_C65 N v_states v_textLong v_all v_refused k65 v_empty v_box x1 x3 = some (r, o_empty, o_box) → va_P D vwCl (ww_X8_digest cI cM a_this a_this_all a_this_past a_this_refused a_this_box a_this_row a_this_text a_this_numbers a_this_before v_states v_empty v_cut v_rowMany v_taken v_found v_textLong v_at v_stopped v_all v_box v_refused) H → va_D A (ww_X8_digest cI cM a_this a_this_all a_this_past a_this_refused a_this_box a_this_row a_this_text a_this_numbers a_this_before v_states v_empty v_cut v_rowMany v_taken v_found v_textLong v_at v_stopped v_all v_box v_refused) → va_S A s.heap H locs → lv_has ls 4 [(0, .ref a_this), (1, .long x1), (3, .int x3)] → W p l e rm_X8_digest s m args below meth c H locs 0 0 (MQ below (g_QL D (g_tys cI cM) A (ww_X8_digest cI cM a_this a_this_all a_this_past a_this_refused a_this_box a_this_row a_this_text a_this_numbers a_this_before v_states o_empty v_cut v_rowMany v_taken v_found v_textLong v_at v_stopped v_all o_box v_refused) r) args s 0 0 A) (F0 m 65 ls []) := by
  obtain ⟨hx, hb, hr, hml, hown, hts, hlocks⟩ := id C0
  intro v_empty v_box x1 x3 H locs ls hf hP hD hS hl
  unfold f_X8_digest_C65 at hf
  refine lv_iload_n hx hb dX8_digest_65 rfl (lv_at hl 2 rfl) ?_
  refine lv_iconst (v := 4) hx hb dX8_digest_66 (by decide) ?_
  refine lv_aload_n hx hb dX8_digest_67 rfl (lv_at hl 0 rfl) ?_
  obtain ⟨r68, hg68, hf⟩ := o_b1_go hf
  refine g_callVi (wn := (ww_X8_digest cI cM a_this a_this_all a_this_past a_this_refused a_this_box a_this_row a_this_text a_this_numbers a_this_before v_states v_empty v_cut v_rowMany v_taken v_found v_textLong v_at v_stopped v_all v_box v_refused)) (rest := [.int 4, .int x3]) ⟨hx, hb, hml, hown, hts⟩ (c_X8_rules l D cI cM a_this a_this_all a_this_past a_this_refused a_this_box a_this_row a_this_text a_this_numbers a_this_before H.size v_states v_empty v_cut v_rowMany v_taken v_found v_textLong v_at v_stopped v_all hg68) (cwV 0 hts gX8_digest_X8_rules rfl rfl rfl (by decide +kernel) ⟨Nat.le_of_ble_eq_true rfl, Nat.le_of_ble_eq_true rfl⟩) hK hP hD hS hA [0, 1] [2, 3] [2, 3, 0, 1] rfl rfl rfl rfl rfl rfl (by decide) rfl rfl rfl hl.1 rfl (Nat.le_of_ble_eq_true rfl) dX8_digest_68 (fun H locs hP hD hS => ?_)
  refine lv_imul hx hb dX8_digest_71 ?_
  refine lv_icmp_ge (tgt := 98) hx hb dX8_digest_72 (by decide) (fun c72 => ?_) (fun c72 => ?_)
  · replace hf := o_t c72 hf
    refine lv_aload_n hx hb dX8_digest_98 rfl (lv_at hl 0 rfl) ?_
    obtain ⟨v_empty_99, v_box_99, hg99, hf⟩ := o_b2_go hf
    refine g_callVv (wn := (ww_X8_digest cI cM a_this a_this_all a_this_past a_this_refused a_this_box a_this_row a_this_text a_this_numbers a_this_before v_states v_empty_99 v_cut v_rowMany v_taken v_found v_textLong v_at v_stopped v_all v_box_99 v_refused)) (rest := []) ⟨hx, hb, hml, hown, hts⟩ (c_X8_laysBox l D cI cM a_this a_this_all a_this_past a_this_refused a_this_box a_this_row a_this_text a_this_numbers a_this_before H.size v_states v_empty v_cut v_rowMany v_taken v_found v_textLong v_at v_stopped v_all v_box hg99) (cwV 0 hts gX8_digest_X8_laysBox rfl rfl rfl (by decide +kernel) ⟨Nat.le_of_ble_eq_true rfl, Nat.le_of_ble_eq_true rfl⟩) hK hP hD hS hA [0, 1, 2] [3] [1, 2, 3, 0] rfl rfl rfl rfl rfl rfl (by decide) rfl rfl rfl hl.1 rfl (Nat.le_of_ble_eq_true rfl) dX8_digest_99 (fun H locs hP hD hS => ?_)
    refine lv_ldc2 (v := 31) hx hb hown (hts (.constantLong RX8 320 (31)) (List.mem_cons_of_mem _ (List.mem_append_left _ (List.mem_append_left _ (List.mem_of_getElem? (i := 1) rfl))))) dX8_digest_102 ?_
    refine lv_lload_n hx hb dX8_digest_105 rfl (lv_at hl 1 rfl) ?_
    refine lv_lmul hx hb dX8_digest_106 ?_
    refine lv_aload_n hx hb dX8_digest_107 rfl (lv_at hl 0 rfl) ?_
    obtain ⟨r108, hg108, hf⟩ := o_b1_go hf
    refine g_callVi (wn := (ww_X8_digest cI cM a_this a_this_all a_this_past a_this_refused a_this_box a_this_row a_this_text a_this_numbers a_this_before v_states v_empty_99 v_cut v_rowMany v_taken v_found v_textLong v_at v_stopped v_all v_box_99 v_refused)) (rest := [.long (31 * x1)]) ⟨hx, hb, hml, hown, hts⟩ (c_X8_allHold l D cI cM a_this a_this_all a_this_past a_this_refused a_this_box a_this_row a_this_text a_this_numbers a_this_before H.size v_states v_empty_99 v_cut v_rowMany v_taken v_found v_textLong v_at v_stopped v_all v_box_99 hg108) (cwV 0 hts gX8_digest_X8_allHold rfl rfl rfl (by decide +kernel) ⟨Nat.le_of_ble_eq_true rfl, Nat.le_of_ble_eq_true rfl⟩) hK hP hD hS hA [0, 1, 2] [3] [1, 2, 3, 0] rfl rfl rfl rfl rfl rfl (by decide) rfl rfl rfl hl.1 rfl (Nat.le_of_ble_eq_true rfl) dX8_digest_108 (fun H locs hP hD hS => ?_)
    refine lv_if_eq (tgt := 118) hx hb dX8_digest_111 (by decide) (fun c111 => ?_) (fun c111 => ?_)
    · replace hf := o_t c111 hf
      refine lv_iconst (v := 0) hx hb dX8_digest_118 (by decide) ?_
      refine lv_i2l hx hb dX8_digest_119 rfl ?_
      refine lv_ladd hx hb dX8_digest_120 ?_
      obtain ⟨q0, y0⟩ := o_rp hf
      obtain ⟨q1, y1⟩ := o_rp y0
      have q2 := Option.some.inj y1
      subst q0 q1 q2
      exact g_lret hx hb hr hlocks hP hD hK hS dX8_digest_121
    · replace hf := o_f c111 hf
      refine lv_iconst (v := 1) hx hb dX8_digest_114 (by decide) ?_
      refine lv_goto (tgt := 119) hx hb dX8_digest_115 (by decide) ?_
      refine lv_i2l hx hb dX8_digest_119 rfl ?_
      refine lv_ladd hx hb dX8_digest_120 ?_
      obtain ⟨q0, y0⟩ := o_rp hf
      obtain ⟨q1, y1⟩ := o_rp y0
      have q2 := Option.some.inj y1
      subst q0 q1 q2
      exact g_lret hx hb hr hlocks hP hD hK hS dX8_digest_121
  · replace hf := o_f c72 hf
    refine lv_ldc2 (v := 31) hx hb hown (hts (.constantLong RX8 320 (31)) (List.mem_cons_of_mem _ (List.mem_append_left _ (List.mem_append_left _ (List.mem_of_getElem? (i := 1) rfl))))) dX8_digest_75 ?_
    refine lv_lload_n hx hb dX8_digest_78 rfl (lv_at hl 1 rfl) ?_
    refine lv_lmul hx hb dX8_digest_79 ?_
    refine lv_aload_n hx hb dX8_digest_80 rfl (lv_at hl 0 rfl) ?_
    refine va_get (D := D) (ci := 6) (v := .ref a_this_all) (C := RX8) (T := TX8) (N := 17) hx hb hts (fun _ h => (List.mem_cons_of_mem _ (List.mem_append_right _ h))) hown hK hP 0 rfl rfl 0 (by decide) (hts (.fieldLink RX8 7 "FloatBoxesModel" "all" "[I") (List.mem_cons_of_mem _ (List.mem_append_left _ (List.mem_append_left _ (List.mem_of_getElem? (i := 2) rfl))))) (fun _ h9 => h9) rfl dX8_digest_81 ?_
    refine lv_bipush (v := 14) hx hb dX8_digest_84 (by decide) ?_
    refine lv_iload_n hx hb dX8_digest_86 rfl (lv_at hl 2 rfl) ?_
    refine lv_iadd hx hb dX8_digest_87 ?_
    obtain ⟨h88, hf⟩ := o_in_go hf
    refine va_iald hx hb hK hP 1 0 rfl rfl h88 dX8_digest_88 ?_
    refine lv_i2l hx hb dX8_digest_89 rfl ?_
    refine lv_ladd hx hb dX8_digest_90 ?_
    refine lv_topl (fun t91 et91 => ?_)
    replace hf := o_nm_go et91 hf
    refine lv_lstore_n (lv' := [(1, .long t91), (0, .ref a_this), (3, .int x3)]) hx hb dX8_digest_91 rfl hl (by decide) rfl (fun ls hl => ?_)
    refine lv_iinc (v := x3 + 1) (lv' := [(3, .int (x3 + 1)), (1, .long t91), (0, .ref a_this)]) hx hb dX8_digest_92 hl (k := 2) rfl rfl (by decide) rfl (fun ls hl => ?_)
    refine lv_goto (tgt := 65) hx hb dX8_digest_95 (by decide) ?_
    exact hk65 v_empty v_box t91 (x3 + 1) H locs ls hf hP hD hS (lv_sub hl [2, 1, 0] rfl)
set_option maxHeartbeats 4000000 in
set_option maxRecDepth 100000 in
theorem w_X8_digest_L65 {p : Program} {l : Launch} {e : Env} {s : State} {m : MethodId} {args : Array Value} {below : List Frame} {meth : Method} {c : Code} {D : va_G} {cI cM : ClassId} {A : Nat → Prop} {a_this a_this_all a_this_past a_this_refused a_this_box a_this_row a_this_text a_this_numbers a_this_before : Nat} {v_cut : Int32} {v_rowMany : Int32} {v_taken : Int32} {v_found : Int32} {v_at : Int32} {v_stopped : Int32} {N : Nat} {v_states : Int32} {v_textLong : Int32} {v_all : Nat → Int32} {v_refused : Nat → Int32} {r : Int64} {o_empty : Int32} {o_box : Nat → Int32} (C0 : g_cx cX8_digest (some .long) 4 RX8 wsX8_digest p s m args meth c) (hA : ∀ q, s.heap.size ≤ q → A q) (hK : va_K D vwCl (g_tys cI cM) s) : ∀ n : Nat, ∀ (v_empty : Int32) (v_box : Nat → Int32) (x1 : Int64) (x3 : Int32) (H : Heap) (locs : List Loc) (ls : Array Slot), f_X8_digest_L65 N v_states v_textLong v_all v_refused n v_empty v_box x1 x3 = some (r, o_empty, o_box) → va_P D vwCl (ww_X8_digest cI cM a_this a_this_all a_this_past a_this_refused a_this_box a_this_row a_this_text a_this_numbers a_this_before v_states v_empty v_cut v_rowMany v_taken v_found v_textLong v_at v_stopped v_all v_box v_refused) H → va_D A (ww_X8_digest cI cM a_this a_this_all a_this_past a_this_refused a_this_box a_this_row a_this_text a_this_numbers a_this_before v_states v_empty v_cut v_rowMany v_taken v_found v_textLong v_at v_stopped v_all v_box v_refused) → va_S A s.heap H locs → lv_has ls 4 [(0, .ref a_this), (1, .long x1), (3, .int x3)] → W p l e rm_X8_digest s m args below meth c H locs 0 0 (MQ below (g_QL D (g_tys cI cM) A (ww_X8_digest cI cM a_this a_this_all a_this_past a_this_refused a_this_box a_this_row a_this_text a_this_numbers a_this_before v_states o_empty v_cut v_rowMany v_taken v_found v_textLong v_at v_stopped v_all o_box v_refused) r) args s 0 0 A) (F0 m 65 ls []) := by
  intro n
  induction n with
  | zero =>
    intro v_empty v_box x1 x3 H locs ls hf
    exact absurd hf (fun h => nomatch h)
  | succ n ih =>
    intro v_empty v_box x1 x3 H locs ls hf
    exact w_X8_digest_C65 C0 hA hK _ ih v_empty v_box x1 x3 H locs ls hf
def f_X8_digest_C33 (N : Nat) (v_states : Int32) (v_textLong : Int32) (v_all : Nat → Int32) (v_refused : Nat → Int32) (k33 : Int32 → (Nat → Int32) → Int64 → Int32 → Option (Int64 × Int32 × (Nat → Int32))) (v_empty : Int32) (v_box : Nat → Int32) (x1 : Int64) (x3 : Int32) : Option (Int64 × Int32 × (Nat → Int32)) :=
  o_b1 (f_X8_unknowns v_all) (fun (r36 : Int32) =>
  if (2 * r36) < x3 then
    f_X8_digest_L65 N v_states v_textLong v_all v_refused N v_empty v_box x1 0
  else
    o_in x3 38 (
    o_nm ((31 * x1) + ((v_all x3.toNatClampNeg).toInt64)) (fun (t56 : Int64) =>
    k33 v_empty v_box t56 (x3 + 1))))
def f_X8_digest_L33 (N : Nat) (v_states : Int32) (v_textLong : Int32) (v_all : Nat → Int32) (v_refused : Nat → Int32) : Nat → Int32 → (Nat → Int32) → Int64 → Int32 → Option (Int64 × Int32 × (Nat → Int32))
  | 0 => fun _ _ _ _ => none
  | n + 1 => f_X8_digest_C33 N v_states v_textLong v_all v_refused (f_X8_digest_L33 N v_states v_textLong v_all v_refused n)
set_option maxHeartbeats 4000000 in
set_option maxRecDepth 100000 in
theorem w_X8_digest_C33 {p : Program} {l : Launch} {e : Env} {s : State} {m : MethodId} {args : Array Value} {below : List Frame} {meth : Method} {c : Code} {D : va_G} {cI cM : ClassId} {A : Nat → Prop} {a_this a_this_all a_this_past a_this_refused a_this_box a_this_row a_this_text a_this_numbers a_this_before : Nat} {v_cut : Int32} {v_rowMany : Int32} {v_taken : Int32} {v_found : Int32} {v_at : Int32} {v_stopped : Int32} {N : Nat} {v_states : Int32} {v_textLong : Int32} {v_all : Nat → Int32} {v_refused : Nat → Int32} {r : Int64} {o_empty : Int32} {o_box : Nat → Int32} (C0 : g_cx cX8_digest (some .long) 4 RX8 wsX8_digest p s m args meth c) (hA : ∀ q, s.heap.size ≤ q → A q) (hK : va_K D vwCl (g_tys cI cM) s) (k33 : Int32 → (Nat → Int32) → Int64 → Int32 → Option (Int64 × Int32 × (Nat → Int32))) (hk33 : ∀ (v_empty : Int32) (v_box : Nat → Int32) (x1 : Int64) (x3 : Int32) (H : Heap) (locs : List Loc) (ls : Array Slot), k33 v_empty v_box x1 x3 = some (r, o_empty, o_box) → va_P D vwCl (ww_X8_digest cI cM a_this a_this_all a_this_past a_this_refused a_this_box a_this_row a_this_text a_this_numbers a_this_before v_states v_empty v_cut v_rowMany v_taken v_found v_textLong v_at v_stopped v_all v_box v_refused) H → va_D A (ww_X8_digest cI cM a_this a_this_all a_this_past a_this_refused a_this_box a_this_row a_this_text a_this_numbers a_this_before v_states v_empty v_cut v_rowMany v_taken v_found v_textLong v_at v_stopped v_all v_box v_refused) → va_S A s.heap H locs → lv_has ls 4 [(0, .ref a_this), (1, .long x1), (3, .int x3)] → W p l e rm_X8_digest s m args below meth c H locs 0 0 (MQ below (g_QL D (g_tys cI cM) A (ww_X8_digest cI cM a_this a_this_all a_this_past a_this_refused a_this_box a_this_row a_this_text a_this_numbers a_this_before v_states o_empty v_cut v_rowMany v_taken v_found v_textLong v_at v_stopped v_all o_box v_refused) r) args s 0 0 A) (F0 m 33 ls [])) : ∀ (v_empty : Int32) (v_box : Nat → Int32) (x1 : Int64) (x3 : Int32) (H : Heap) (locs : List Loc) (ls : Array Slot), f_X8_digest_C33 N v_states v_textLong v_all v_refused k33 v_empty v_box x1 x3 = some (r, o_empty, o_box) → va_P D vwCl (ww_X8_digest cI cM a_this a_this_all a_this_past a_this_refused a_this_box a_this_row a_this_text a_this_numbers a_this_before v_states v_empty v_cut v_rowMany v_taken v_found v_textLong v_at v_stopped v_all v_box v_refused) H → va_D A (ww_X8_digest cI cM a_this a_this_all a_this_past a_this_refused a_this_box a_this_row a_this_text a_this_numbers a_this_before v_states v_empty v_cut v_rowMany v_taken v_found v_textLong v_at v_stopped v_all v_box v_refused) → va_S A s.heap H locs → lv_has ls 4 [(0, .ref a_this), (1, .long x1), (3, .int x3)] → W p l e rm_X8_digest s m args below meth c H locs 0 0 (MQ below (g_QL D (g_tys cI cM) A (ww_X8_digest cI cM a_this a_this_all a_this_past a_this_refused a_this_box a_this_row a_this_text a_this_numbers a_this_before v_states o_empty v_cut v_rowMany v_taken v_found v_textLong v_at v_stopped v_all o_box v_refused) r) args s 0 0 A) (F0 m 33 ls []) := by
  obtain ⟨hx, hb, hr, hml, hown, hts, hlocks⟩ := id C0
  intro v_empty v_box x1 x3 H locs ls hf hP hD hS hl
  unfold f_X8_digest_C33 at hf
  refine lv_iload_n hx hb dX8_digest_33 rfl (lv_at hl 2 rfl) ?_
  refine lv_iconst (v := 2) hx hb dX8_digest_34 (by decide) ?_
  refine lv_aload_n hx hb dX8_digest_35 rfl (lv_at hl 0 rfl) ?_
  obtain ⟨r36, hg36, hf⟩ := o_b1_go hf
  refine g_callVi (wn := (ww_X8_digest cI cM a_this a_this_all a_this_past a_this_refused a_this_box a_this_row a_this_text a_this_numbers a_this_before v_states v_empty v_cut v_rowMany v_taken v_found v_textLong v_at v_stopped v_all v_box v_refused)) (rest := [.int 2, .int x3]) ⟨hx, hb, hml, hown, hts⟩ (c_X8_unknowns l D cI cM a_this a_this_all a_this_past a_this_refused a_this_box a_this_row a_this_text a_this_numbers a_this_before H.size v_states v_empty v_cut v_rowMany v_taken v_found v_textLong v_at v_stopped v_all hg36) (cwV 0 hts gX8_digest_X8_unknowns rfl rfl rfl (by decide +kernel) ⟨Nat.le_of_ble_eq_true rfl, Nat.le_of_ble_eq_true rfl⟩) hK hP hD hS hA [0, 1] [2, 3] [2, 3, 0, 1] rfl rfl rfl rfl rfl rfl (by decide) rfl rfl rfl hl.1 rfl (Nat.le_of_ble_eq_true rfl) dX8_digest_36 (fun H locs hP hD hS => ?_)
  refine lv_imul hx hb dX8_digest_39 ?_
  refine lv_icmp_gt (tgt := 63) hx hb dX8_digest_40 (by decide) (fun c40 => ?_) (fun c40 => ?_)
  · replace hf := o_t c40 hf
    refine lv_iconst (v := 0) hx hb dX8_digest_63 (by decide) ?_
    refine lv_istore_n (lv' := [(3, .int 0), (0, .ref a_this), (1, .long x1)]) hx hb dX8_digest_64 rfl hl (by decide) rfl (fun ls hl => ?_)
    exact w_X8_digest_L65 C0 hA hK N v_empty v_box x1 0 H locs ls hf hP hD hS (lv_sub hl [1, 2, 0] rfl)
  · replace hf := o_f c40 hf
    refine lv_ldc2 (v := 31) hx hb hown (hts (.constantLong RX8 320 (31)) (List.mem_cons_of_mem _ (List.mem_append_left _ (List.mem_append_left _ (List.mem_of_getElem? (i := 1) rfl))))) dX8_digest_43 ?_
    refine lv_lload_n hx hb dX8_digest_46 rfl (lv_at hl 1 rfl) ?_
    refine lv_lmul hx hb dX8_digest_47 ?_
    refine lv_aload_n hx hb dX8_digest_48 rfl (lv_at hl 0 rfl) ?_
    refine va_get (D := D) (ci := 6) (v := .ref a_this_all) (C := RX8) (T := TX8) (N := 17) hx hb hts (fun _ h => (List.mem_cons_of_mem _ (List.mem_append_right _ h))) hown hK hP 0 rfl rfl 0 (by decide) (hts (.fieldLink RX8 7 "FloatBoxesModel" "all" "[I") (List.mem_cons_of_mem _ (List.mem_append_left _ (List.mem_append_left _ (List.mem_of_getElem? (i := 2) rfl))))) (fun _ h9 => h9) rfl dX8_digest_49 ?_
    refine lv_iload_n hx hb dX8_digest_52 rfl (lv_at hl 2 rfl) ?_
    obtain ⟨h53, hf⟩ := o_in_go hf
    refine va_iald hx hb hK hP 1 0 rfl rfl h53 dX8_digest_53 ?_
    refine lv_i2l hx hb dX8_digest_54 rfl ?_
    refine lv_ladd hx hb dX8_digest_55 ?_
    refine lv_topl (fun t56 et56 => ?_)
    replace hf := o_nm_go et56 hf
    refine lv_lstore_n (lv' := [(1, .long t56), (0, .ref a_this), (3, .int x3)]) hx hb dX8_digest_56 rfl hl (by decide) rfl (fun ls hl => ?_)
    refine lv_iinc (v := x3 + 1) (lv' := [(3, .int (x3 + 1)), (1, .long t56), (0, .ref a_this)]) hx hb dX8_digest_57 hl (k := 2) rfl rfl (by decide) rfl (fun ls hl => ?_)
    refine lv_goto (tgt := 33) hx hb dX8_digest_60 (by decide) ?_
    exact hk33 v_empty v_box t56 (x3 + 1) H locs ls hf hP hD hS (lv_sub hl [2, 1, 0] rfl)
set_option maxHeartbeats 4000000 in
set_option maxRecDepth 100000 in
theorem w_X8_digest_L33 {p : Program} {l : Launch} {e : Env} {s : State} {m : MethodId} {args : Array Value} {below : List Frame} {meth : Method} {c : Code} {D : va_G} {cI cM : ClassId} {A : Nat → Prop} {a_this a_this_all a_this_past a_this_refused a_this_box a_this_row a_this_text a_this_numbers a_this_before : Nat} {v_cut : Int32} {v_rowMany : Int32} {v_taken : Int32} {v_found : Int32} {v_at : Int32} {v_stopped : Int32} {N : Nat} {v_states : Int32} {v_textLong : Int32} {v_all : Nat → Int32} {v_refused : Nat → Int32} {r : Int64} {o_empty : Int32} {o_box : Nat → Int32} (C0 : g_cx cX8_digest (some .long) 4 RX8 wsX8_digest p s m args meth c) (hA : ∀ q, s.heap.size ≤ q → A q) (hK : va_K D vwCl (g_tys cI cM) s) : ∀ n : Nat, ∀ (v_empty : Int32) (v_box : Nat → Int32) (x1 : Int64) (x3 : Int32) (H : Heap) (locs : List Loc) (ls : Array Slot), f_X8_digest_L33 N v_states v_textLong v_all v_refused n v_empty v_box x1 x3 = some (r, o_empty, o_box) → va_P D vwCl (ww_X8_digest cI cM a_this a_this_all a_this_past a_this_refused a_this_box a_this_row a_this_text a_this_numbers a_this_before v_states v_empty v_cut v_rowMany v_taken v_found v_textLong v_at v_stopped v_all v_box v_refused) H → va_D A (ww_X8_digest cI cM a_this a_this_all a_this_past a_this_refused a_this_box a_this_row a_this_text a_this_numbers a_this_before v_states v_empty v_cut v_rowMany v_taken v_found v_textLong v_at v_stopped v_all v_box v_refused) → va_S A s.heap H locs → lv_has ls 4 [(0, .ref a_this), (1, .long x1), (3, .int x3)] → W p l e rm_X8_digest s m args below meth c H locs 0 0 (MQ below (g_QL D (g_tys cI cM) A (ww_X8_digest cI cM a_this a_this_all a_this_past a_this_refused a_this_box a_this_row a_this_text a_this_numbers a_this_before v_states o_empty v_cut v_rowMany v_taken v_found v_textLong v_at v_stopped v_all o_box v_refused) r) args s 0 0 A) (F0 m 33 ls []) := by
  intro n
  induction n with
  | zero =>
    intro v_empty v_box x1 x3 H locs ls hf
    exact absurd hf (fun h => nomatch h)
  | succ n ih =>
    intro v_empty v_box x1 x3 H locs ls hf
    exact w_X8_digest_C33 C0 hA hK _ ih v_empty v_box x1 x3 H locs ls hf
def f_X8_digest_C6 (N : Nat) (v_states : Int32) (v_textLong : Int32) (v_all : Nat → Int32) (v_refused : Nat → Int32) (k6 : Int32 → (Nat → Int32) → Int64 → Int32 → Option (Int64 × Int32 × (Nat → Int32))) (v_empty : Int32) (v_box : Nat → Int32) (x1 : Int64) (x3 : Int32) : Option (Int64 × Int32 × (Nat → Int32)) :=
  if 7 ≤ x3 then
    f_X8_digest_L33 N v_states v_textLong v_all v_refused N v_empty v_box x1 1
  else
    o_b1 (f_X8_toldOf v_states v_textLong v_all v_refused x3) (fun (r19 : Int32) =>
    o_nm ((31 * x1) + r19.toInt64) (fun (t24 : Int64) =>
    k6 v_empty v_box t24 (x3 + 1)))
def f_X8_digest_L6 (N : Nat) (v_states : Int32) (v_textLong : Int32) (v_all : Nat → Int32) (v_refused : Nat → Int32) : Nat → Int32 → (Nat → Int32) → Int64 → Int32 → Option (Int64 × Int32 × (Nat → Int32))
  | 0 => fun _ _ _ _ => none
  | n + 1 => f_X8_digest_C6 N v_states v_textLong v_all v_refused (f_X8_digest_L6 N v_states v_textLong v_all v_refused n)
set_option maxHeartbeats 4000000 in
set_option maxRecDepth 100000 in
theorem w_X8_digest_C6 {p : Program} {l : Launch} {e : Env} {s : State} {m : MethodId} {args : Array Value} {below : List Frame} {meth : Method} {c : Code} {D : va_G} {cI cM : ClassId} {A : Nat → Prop} {a_this a_this_all a_this_past a_this_refused a_this_box a_this_row a_this_text a_this_numbers a_this_before : Nat} {v_cut : Int32} {v_rowMany : Int32} {v_taken : Int32} {v_found : Int32} {v_at : Int32} {v_stopped : Int32} {N : Nat} {v_states : Int32} {v_textLong : Int32} {v_all : Nat → Int32} {v_refused : Nat → Int32} {r : Int64} {o_empty : Int32} {o_box : Nat → Int32} (C0 : g_cx cX8_digest (some .long) 4 RX8 wsX8_digest p s m args meth c) (hA : ∀ q, s.heap.size ≤ q → A q) (hK : va_K D vwCl (g_tys cI cM) s) (k6 : Int32 → (Nat → Int32) → Int64 → Int32 → Option (Int64 × Int32 × (Nat → Int32))) (hk6 : ∀ (v_empty : Int32) (v_box : Nat → Int32) (x1 : Int64) (x3 : Int32) (H : Heap) (locs : List Loc) (ls : Array Slot), k6 v_empty v_box x1 x3 = some (r, o_empty, o_box) → va_P D vwCl (ww_X8_digest cI cM a_this a_this_all a_this_past a_this_refused a_this_box a_this_row a_this_text a_this_numbers a_this_before v_states v_empty v_cut v_rowMany v_taken v_found v_textLong v_at v_stopped v_all v_box v_refused) H → va_D A (ww_X8_digest cI cM a_this a_this_all a_this_past a_this_refused a_this_box a_this_row a_this_text a_this_numbers a_this_before v_states v_empty v_cut v_rowMany v_taken v_found v_textLong v_at v_stopped v_all v_box v_refused) → va_S A s.heap H locs → lv_has ls 4 [(0, .ref a_this), (1, .long x1), (3, .int x3)] → W p l e rm_X8_digest s m args below meth c H locs 0 0 (MQ below (g_QL D (g_tys cI cM) A (ww_X8_digest cI cM a_this a_this_all a_this_past a_this_refused a_this_box a_this_row a_this_text a_this_numbers a_this_before v_states o_empty v_cut v_rowMany v_taken v_found v_textLong v_at v_stopped v_all o_box v_refused) r) args s 0 0 A) (F0 m 6 ls [])) : ∀ (v_empty : Int32) (v_box : Nat → Int32) (x1 : Int64) (x3 : Int32) (H : Heap) (locs : List Loc) (ls : Array Slot), f_X8_digest_C6 N v_states v_textLong v_all v_refused k6 v_empty v_box x1 x3 = some (r, o_empty, o_box) → va_P D vwCl (ww_X8_digest cI cM a_this a_this_all a_this_past a_this_refused a_this_box a_this_row a_this_text a_this_numbers a_this_before v_states v_empty v_cut v_rowMany v_taken v_found v_textLong v_at v_stopped v_all v_box v_refused) H → va_D A (ww_X8_digest cI cM a_this a_this_all a_this_past a_this_refused a_this_box a_this_row a_this_text a_this_numbers a_this_before v_states v_empty v_cut v_rowMany v_taken v_found v_textLong v_at v_stopped v_all v_box v_refused) → va_S A s.heap H locs → lv_has ls 4 [(0, .ref a_this), (1, .long x1), (3, .int x3)] → W p l e rm_X8_digest s m args below meth c H locs 0 0 (MQ below (g_QL D (g_tys cI cM) A (ww_X8_digest cI cM a_this a_this_all a_this_past a_this_refused a_this_box a_this_row a_this_text a_this_numbers a_this_before v_states o_empty v_cut v_rowMany v_taken v_found v_textLong v_at v_stopped v_all o_box v_refused) r) args s 0 0 A) (F0 m 6 ls []) := by
  obtain ⟨hx, hb, hr, hml, hown, hts, hlocks⟩ := id C0
  intro v_empty v_box x1 x3 H locs ls hf hP hD hS hl
  unfold f_X8_digest_C6 at hf
  refine lv_iload_n hx hb dX8_digest_6 rfl (lv_at hl 2 rfl) ?_
  refine lv_bipush (v := 7) hx hb dX8_digest_7 (by decide) ?_
  refine lv_icmp_ge (tgt := 31) hx hb dX8_digest_9 (by decide) (fun c9 => ?_) (fun c9 => ?_)
  · replace hf := o_t c9 hf
    refine lv_iconst (v := 1) hx hb dX8_digest_31 (by decide) ?_
    refine lv_istore_n (lv' := [(3, .int 1), (0, .ref a_this), (1, .long x1)]) hx hb dX8_digest_32 rfl hl (by decide) rfl (fun ls hl => ?_)
    exact w_X8_digest_L33 C0 hA hK N v_empty v_box x1 1 H locs ls hf hP hD hS (lv_sub hl [1, 2, 0] rfl)
  · replace hf := o_f c9 hf
    refine lv_ldc2 (v := 31) hx hb hown (hts (.constantLong RX8 320 (31)) (List.mem_cons_of_mem _ (List.mem_append_left _ (List.mem_append_left _ (List.mem_of_getElem? (i := 1) rfl))))) dX8_digest_12 ?_
    refine lv_lload_n hx hb dX8_digest_15 rfl (lv_at hl 1 rfl) ?_
    refine lv_lmul hx hb dX8_digest_16 ?_
    refine lv_aload_n hx hb dX8_digest_17 rfl (lv_at hl 0 rfl) ?_
    refine lv_iload_n hx hb dX8_digest_18 rfl (lv_at hl 2 rfl) ?_
    obtain ⟨r19, hg19, hf⟩ := o_b1_go hf
    refine g_callVi (wn := (ww_X8_digest cI cM a_this a_this_all a_this_past a_this_refused a_this_box a_this_row a_this_text a_this_numbers a_this_before v_states v_empty v_cut v_rowMany v_taken v_found v_textLong v_at v_stopped v_all v_box v_refused)) (rest := [.long (31 * x1)]) ⟨hx, hb, hml, hown, hts⟩ (c_X8_toldOf l D cI cM a_this a_this_all a_this_past a_this_refused a_this_box a_this_row a_this_text a_this_numbers a_this_before H.size v_states v_empty v_cut v_rowMany v_taken v_found v_textLong v_at v_stopped v_all v_refused hg19) (cwV 1 hts gX8_digest_X8_toldOf rfl rfl rfl (by decide +kernel) ⟨Nat.le_of_ble_eq_true rfl, Nat.le_of_ble_eq_true rfl⟩) hK hP hD hS hA [0, 1, 3] [2] [1, 2, 0, 3] rfl rfl rfl rfl rfl rfl (by decide) rfl rfl rfl hl.1 rfl (Nat.le_of_ble_eq_true rfl) dX8_digest_19 (fun H locs hP hD hS => ?_)
    refine lv_i2l hx hb dX8_digest_22 rfl ?_
    refine lv_ladd hx hb dX8_digest_23 ?_
    refine lv_topl (fun t24 et24 => ?_)
    replace hf := o_nm_go et24 hf
    refine lv_lstore_n (lv' := [(1, .long t24), (0, .ref a_this), (3, .int x3)]) hx hb dX8_digest_24 rfl hl (by decide) rfl (fun ls hl => ?_)
    refine lv_iinc (v := x3 + 1) (lv' := [(3, .int (x3 + 1)), (1, .long t24), (0, .ref a_this)]) hx hb dX8_digest_25 hl (k := 2) rfl rfl (by decide) rfl (fun ls hl => ?_)
    refine lv_goto (tgt := 6) hx hb dX8_digest_28 (by decide) ?_
    exact hk6 v_empty v_box t24 (x3 + 1) H locs ls hf hP hD hS (lv_sub hl [2, 1, 0] rfl)
set_option maxHeartbeats 4000000 in
set_option maxRecDepth 100000 in
theorem w_X8_digest_L6 {p : Program} {l : Launch} {e : Env} {s : State} {m : MethodId} {args : Array Value} {below : List Frame} {meth : Method} {c : Code} {D : va_G} {cI cM : ClassId} {A : Nat → Prop} {a_this a_this_all a_this_past a_this_refused a_this_box a_this_row a_this_text a_this_numbers a_this_before : Nat} {v_cut : Int32} {v_rowMany : Int32} {v_taken : Int32} {v_found : Int32} {v_at : Int32} {v_stopped : Int32} {N : Nat} {v_states : Int32} {v_textLong : Int32} {v_all : Nat → Int32} {v_refused : Nat → Int32} {r : Int64} {o_empty : Int32} {o_box : Nat → Int32} (C0 : g_cx cX8_digest (some .long) 4 RX8 wsX8_digest p s m args meth c) (hA : ∀ q, s.heap.size ≤ q → A q) (hK : va_K D vwCl (g_tys cI cM) s) : ∀ n : Nat, ∀ (v_empty : Int32) (v_box : Nat → Int32) (x1 : Int64) (x3 : Int32) (H : Heap) (locs : List Loc) (ls : Array Slot), f_X8_digest_L6 N v_states v_textLong v_all v_refused n v_empty v_box x1 x3 = some (r, o_empty, o_box) → va_P D vwCl (ww_X8_digest cI cM a_this a_this_all a_this_past a_this_refused a_this_box a_this_row a_this_text a_this_numbers a_this_before v_states v_empty v_cut v_rowMany v_taken v_found v_textLong v_at v_stopped v_all v_box v_refused) H → va_D A (ww_X8_digest cI cM a_this a_this_all a_this_past a_this_refused a_this_box a_this_row a_this_text a_this_numbers a_this_before v_states v_empty v_cut v_rowMany v_taken v_found v_textLong v_at v_stopped v_all v_box v_refused) → va_S A s.heap H locs → lv_has ls 4 [(0, .ref a_this), (1, .long x1), (3, .int x3)] → W p l e rm_X8_digest s m args below meth c H locs 0 0 (MQ below (g_QL D (g_tys cI cM) A (ww_X8_digest cI cM a_this a_this_all a_this_past a_this_refused a_this_box a_this_row a_this_text a_this_numbers a_this_before v_states o_empty v_cut v_rowMany v_taken v_found v_textLong v_at v_stopped v_all o_box v_refused) r) args s 0 0 A) (F0 m 6 ls []) := by
  intro n
  induction n with
  | zero =>
    intro v_empty v_box x1 x3 H locs ls hf
    exact absurd hf (fun h => nomatch h)
  | succ n ih =>
    intro v_empty v_box x1 x3 H locs ls hf
    exact w_X8_digest_C6 C0 hA hK _ ih v_empty v_box x1 x3 H locs ls hf
def f_X8_digest (N : Nat) (v_states : Int32) (v_textLong : Int32) (v_all : Nat → Int32) (v_refused : Nat → Int32) (v_empty : Int32) (v_box : Nat → Int32) : Option (Int64 × Int32 × (Nat → Int32)) :=
  f_X8_digest_L6 N v_states v_textLong v_all v_refused N v_empty v_box 2377 0
set_option maxHeartbeats 4000000 in
set_option maxRecDepth 100000 in
theorem w_X8_digest_B0 {p : Program} {l : Launch} {e : Env} {s : State} {m : MethodId} {args : Array Value} {below : List Frame} {meth : Method} {c : Code} {D : va_G} {cI cM : ClassId} {A : Nat → Prop} {a_this a_this_all a_this_past a_this_refused a_this_box a_this_row a_this_text a_this_numbers a_this_before : Nat} {v_cut : Int32} {v_rowMany : Int32} {v_taken : Int32} {v_found : Int32} {v_at : Int32} {v_stopped : Int32} {N : Nat} {v_states : Int32} {v_textLong : Int32} {v_all : Nat → Int32} {v_refused : Nat → Int32} {r : Int64} {o_empty : Int32} {o_box : Nat → Int32} (C0 : g_cx cX8_digest (some .long) 4 RX8 wsX8_digest p s m args meth c) (hA : ∀ q, s.heap.size ≤ q → A q) (hK : va_K D vwCl (g_tys cI cM) s) : ∀ (v_empty : Int32) (v_box : Nat → Int32) (H : Heap) (locs : List Loc) (ls : Array Slot), f_X8_digest N v_states v_textLong v_all v_refused v_empty v_box = some (r, o_empty, o_box) → va_P D vwCl (ww_X8_digest cI cM a_this a_this_all a_this_past a_this_refused a_this_box a_this_row a_this_text a_this_numbers a_this_before v_states v_empty v_cut v_rowMany v_taken v_found v_textLong v_at v_stopped v_all v_box v_refused) H → va_D A (ww_X8_digest cI cM a_this a_this_all a_this_past a_this_refused a_this_box a_this_row a_this_text a_this_numbers a_this_before v_states v_empty v_cut v_rowMany v_taken v_found v_textLong v_at v_stopped v_all v_box v_refused) → va_S A s.heap H locs → lv_has ls 4 [(0, .ref a_this)] → W p l e rm_X8_digest s m args below meth c H locs 0 0 (MQ below (g_QL D (g_tys cI cM) A (ww_X8_digest cI cM a_this a_this_all a_this_past a_this_refused a_this_box a_this_row a_this_text a_this_numbers a_this_before v_states o_empty v_cut v_rowMany v_taken v_found v_textLong v_at v_stopped v_all o_box v_refused) r) args s 0 0 A) (F0 m 0 ls []) := by
  obtain ⟨hx, hb, hr, hml, hown, hts, hlocks⟩ := id C0
  intro v_empty v_box H locs ls hf hP hD hS hl
  unfold f_X8_digest at hf
  refine lv_ldc2 (v := 2377) hx hb hown (hts (.constantLong RX8 318 (2377)) (List.mem_cons_of_mem _ (List.mem_append_left _ (List.mem_append_left _ (List.mem_of_getElem? (i := 0) rfl))))) dX8_digest_0 ?_
  refine lv_lstore_n (lv' := [(1, .long 2377), (0, .ref a_this)]) hx hb dX8_digest_3 rfl hl (by decide) rfl (fun ls hl => ?_)
  refine lv_iconst (v := 0) hx hb dX8_digest_4 (by decide) ?_
  refine lv_istore_n (lv' := [(3, .int 0), (1, .long 2377), (0, .ref a_this)]) hx hb dX8_digest_5 rfl hl (by decide) rfl (fun ls hl => ?_)
  exact w_X8_digest_L6 C0 hA hK N v_empty v_box 2377 0 H locs ls hf hP hD hS (lv_sub hl [2, 1, 0] rfl)
set_option maxHeartbeats 4000000 in
set_option maxRecDepth 100000 in
theorem c_X8_digest (l : Launch) (D : va_G) (cI cM : ClassId) (a_this a_this_all a_this_past a_this_refused a_this_box a_this_row a_this_text a_this_numbers a_this_before : Nat) (sz : Nat) (v_states : Int32) (v_empty : Int32) (v_cut : Int32) (v_rowMany : Int32) (v_taken : Int32) (v_found : Int32) (v_textLong : Int32) (v_at : Int32) (v_stopped : Int32) (v_all : Nat → Int32) (v_box : Nat → Int32) (v_refused : Nat → Int32) {N : Nat} {r : Int64} {o_empty : Int32} {o_box : Nat → Int32} (hf : f_X8_digest N v_states v_textLong v_all v_refused v_empty v_box = some (r, o_empty, o_box)) : Met l yX8_digest wsX8_digest rm_X8_digest (g_Pc D (g_tys cI cM) (ww_X8_digest cI cM a_this a_this_all a_this_past a_this_refused a_this_box a_this_row a_this_text a_this_numbers a_this_before v_states v_empty v_cut v_rowMany v_taken v_found v_textLong v_at v_stopped v_all v_box v_refused) sz [.ref a_this]) (g_QL D (g_tys cI cM) (va_A (ww_X8_digest cI cM a_this a_this_all a_this_past a_this_refused a_this_box a_this_row a_this_text a_this_numbers a_this_before v_states v_empty v_cut v_rowMany v_taken v_found v_textLong v_at v_stopped v_all v_box v_refused) sz) (ww_X8_digest cI cM a_this a_this_all a_this_past a_this_refused a_this_box a_this_row a_this_text a_this_numbers a_this_before v_states o_empty v_cut v_rowMany v_taken v_found v_textLong v_at v_stopped v_all o_box v_refused) r) 0 0 (va_A (ww_X8_digest cI cM a_this a_this_all a_this_past a_this_refused a_this_box a_this_row a_this_text a_this_numbers a_this_before v_states v_empty v_cut v_rowMany v_taken v_found v_textLong v_at v_stopped v_all v_box v_refused) sz) := by
  refine g_met (cc := cX8_digest) (maxL := 4) (ret := (some .long)) (Qc := fun D A => g_QL D (g_tys cI cM) A (ww_X8_digest cI cM a_this a_this_all a_this_past a_this_refused a_this_box a_this_row a_this_text a_this_numbers a_this_before v_states o_empty v_cut v_rowMany v_taken v_found v_textLong v_at v_stopped v_all o_box v_refused) r) (by decide) rfl ?_
  intro p e s m below meth c A C0 hA hK hP hD
  have hl := lv_entry ([.ref a_this]) (n := 4) (Nat.le_of_ble_eq_true rfl)
  rw [lg_entry_eq]
  generalize (lg_sl ([.ref a_this]) ++ List.replicate (4 - (lg_sl ([.ref a_this])).length) Slot.unset).toArray = ls at hl ⊢
  have hl : lv_has ls 4 [(0, .ref a_this)] := hl
  exact w_X8_digest_B0 C0 hA hK v_empty v_box s.heap [] ls hf hP hD va_S.rf (lv_sub hl [0] rfl)
