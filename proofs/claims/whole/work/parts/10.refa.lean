/-! FloatBoxesModel.in(JJJ)Z -/
abbrev rm_X8_in : Room := { frames := 0, cells := 0, slots := 0, locals := 0 }
def f_X8_in  (x0 : Int64) (x2 : Int64) (x4 : Int64) : Option (Int32) :=
  if (lg_cmp x0 x2) < 0 then
    some 0
  else
    if 0 < (lg_cmp x0 x4) then
      some 0
    else
      some 1
set_option maxHeartbeats 4000000 in
set_option maxRecDepth 100000 in
theorem w_X8_in_B0 {p : Program} {l : Launch} {e : Env} {s : State} {m : MethodId} {args : Array Value} {below : List Frame} {meth : Method} {c : Code} {r : Int32} (C0 : g_cx cX8_in (some .boolean) 6 RX8 wsX8_in p s m args meth c) : ∀ (x0 : Int64) (x2 : Int64) (x4 : Int64) (ls : Array Slot), f_X8_in x0 x2 x4 = some r → lv_has ls 6 [(0, .long x0), (2, .long x2), (4, .long x4)] → W p l e rm_X8_in s m args below meth c s.heap [] 0 0 (MQ below (g_SI r) args s 0 0 (fun _ => False)) (F0 m 0 ls []) := by
  obtain ⟨hx, hb, hr, hml, hown, hts, hlocks⟩ := id C0
  intro x0 x2 x4 ls hf hl
  unfold f_X8_in at hf
  refine lv_lload_n hx hb dX8_in_0 rfl (lv_at hl 0 rfl) ?_
  refine lv_lload_n hx hb dX8_in_1 rfl (lv_at hl 1 rfl) ?_
  refine W.lcmp hx hb dX8_in_2 ?_
  refine lv_if_lt (tgt := 17) hx hb dX8_in_3 (by decide) (fun c3 => ?_) (fun c3 => ?_)
  · replace hf := o_t c3 hf
    refine lv_iconst (v := 0) hx hb dX8_in_17 (by decide) ?_
    have q0 := Option.some.inj hf
    subst q0
    exact g_szret hx hb hr hlocks (by decide) dX8_in_18
  · replace hf := o_f c3 hf
    refine lv_lload_n hx hb dX8_in_6 rfl (lv_at hl 0 rfl) ?_
    refine lv_lload hx hb dX8_in_7 (lv_at hl 2 rfl) ?_
    refine W.lcmp hx hb dX8_in_9 ?_
    refine lv_if_gt (tgt := 17) hx hb dX8_in_10 (by decide) (fun c10 => ?_) (fun c10 => ?_)
    · replace hf := o_t c10 hf
      refine lv_iconst (v := 0) hx hb dX8_in_17 (by decide) ?_
      have q0 := Option.some.inj hf
      subst q0
      exact g_szret hx hb hr hlocks (by decide) dX8_in_18
    · replace hf := o_f c10 hf
      refine lv_iconst (v := 1) hx hb dX8_in_13 (by decide) ?_
      refine lv_goto (tgt := 18) hx hb dX8_in_14 (by decide) ?_
      have q0 := Option.some.inj hf
      subst q0
      exact g_szret hx hb hr hlocks (by decide) dX8_in_18
set_option maxHeartbeats 4000000 in
set_option maxRecDepth 100000 in
theorem c_X8_in (l : Launch) {x0 : Int64} {x2 : Int64} {x4 : Int64} {r : Int32} (hf : f_X8_in x0 x2 x4 = some r) : Met l yX8_in wsX8_in rm_X8_in (g_PS [.long x0, .long x2, .long x4]) (g_SI r) 0 0 (fun _ => False) := by
  refine g_metS (cc := cX8_in) (maxL := 6) (ret := (some .boolean)) (by decide) rfl ?_
  intro p e s m below meth c C0
  have hl := lv_entry ([.long x0, .long x2, .long x4]) (n := 6) (Nat.le_of_ble_eq_true rfl)
  rw [lg_entry_eq]
  generalize (lg_sl ([.long x0, .long x2, .long x4]) ++ List.replicate (6 - (lg_sl ([.long x0, .long x2, .long x4])).length) Slot.unset).toArray = ls at hl ⊢
  have hl : lv_has ls 6 [(0, .long x0), (2, .long x2), (4, .long x4)] := hl
  exact w_X8_in_B0 C0 x0 x2 x4 ls hf (lv_sub hl [0, 1, 2] rfl)
/-! FloatBoxesModel.isPlace(I)Z -/
abbrev rm_X8_isPlace : Room := { frames := 1, cells := 0, slots := 0, locals := 25 }
def f_X8_isPlace  (x0 : Int32) : Option (Int32) :=
  o_b1 (f_X8_in x0.toInt64 ((-2139095040)) 2139095039) (fun (r8 : Int32) =>
  o_ck (o_zb r8) (some r8))
set_option maxHeartbeats 4000000 in
set_option maxRecDepth 100000 in
theorem w_X8_isPlace_B0 {p : Program} {l : Launch} {e : Env} {s : State} {m : MethodId} {args : Array Value} {below : List Frame} {meth : Method} {c : Code} {r : Int32} (C0 : g_cx cX8_isPlace (some .boolean) 1 RX8 wsX8_isPlace p s m args meth c) : ∀ (x0 : Int32) (ls : Array Slot), f_X8_isPlace x0 = some r → lv_has ls 1 [(0, .int x0)] → W p l e rm_X8_isPlace s m args below meth c s.heap [] 0 0 (MQ below (g_SI r) args s 0 0 (fun _ => False)) (F0 m 0 ls []) := by
  obtain ⟨hx, hb, hr, hml, hown, hts, hlocks⟩ := id C0
  intro x0 ls hf hl
  unfold f_X8_isPlace at hf
  refine lv_iload_n hx hb dX8_isPlace_0 rfl (lv_at hl 0 rfl) ?_
  refine lv_i2l hx hb dX8_isPlace_1 rfl ?_
  refine lv_ldc2 (v := (-2139095040)) hx hb hown (hts (.constantLong RX8 34 (-2139095040)) (List.mem_cons_of_mem _ (List.mem_of_getElem? (i := 0) rfl))) dX8_isPlace_2 ?_
  refine lv_ldc2 (v := 2139095039) hx hb hown (hts (.constantLong RX8 36 (2139095039)) (List.mem_cons_of_mem _ (List.mem_of_getElem? (i := 1) rfl))) dX8_isPlace_5 ?_
  obtain ⟨r8, hg8, hf⟩ := o_b1_go hf
  refine g_callSi (rest := []) ⟨hx, hb, hml, hown, hts⟩ (c_X8_in l hg8) (va_cwS 3 hts gX8_isPlace_X8_in rfl rfl rfl (by decide +kernel) ⟨Nat.le_of_ble_eq_true rfl, Nat.le_of_ble_eq_true rfl⟩) rfl hl.1 rfl (Nat.le_of_ble_eq_true rfl) dX8_isPlace_8 ?_
  obtain ⟨hz11, hf⟩ := o_ck_go hf
  have q0 := Option.some.inj hf
  subst q0
  exact g_szret hx hb hr hlocks hz11 dX8_isPlace_11
set_option maxHeartbeats 4000000 in
set_option maxRecDepth 100000 in
theorem c_X8_isPlace (l : Launch) {x0 : Int32} {r : Int32} (hf : f_X8_isPlace x0 = some r) : Met l yX8_isPlace wsX8_isPlace rm_X8_isPlace (g_PS [.int x0]) (g_SI r) 0 0 (fun _ => False) := by
  refine g_metS (cc := cX8_isPlace) (maxL := 1) (ret := (some .boolean)) (by decide) rfl ?_
  intro p e s m below meth c C0
  have hl := lv_entry ([.int x0]) (n := 1) (Nat.le_of_ble_eq_true rfl)
  rw [lg_entry_eq]
  generalize (lg_sl ([.int x0]) ++ List.replicate (1 - (lg_sl ([.int x0])).length) Slot.unset).toArray = ls at hl ⊢
  have hl : lv_has ls 1 [(0, .int x0)] := hl
  exact w_X8_isPlace_B0 C0 x0 ls hf (lv_sub hl [0] rfl)
/-! FloatBoxesModel.refuses(I)I -/
abbrev rm_X8_refuses : Room := { frames := 0, cells := 0, slots := 0, locals := 0 }
abbrev ww_X8_refuses (cI cM : ClassId) (a_this a_this_all a_this_past a_this_refused a_this_box a_this_row a_this_text a_this_numbers a_this_before : Nat) (v_states : Int32) (v_empty : Int32) (v_cut : Int32) (v_rowMany : Int32) (v_taken : Int32) (v_found : Int32) (v_textLong : Int32) (v_at : Int32) (v_stopped : Int32) (v_refused : Nat → Int32) : va_W := [(a_this, .inr (6, [.ref a_this_all, .ref a_this_past, .int v_states, .ref a_this_refused, .ref a_this_box, .int v_empty, .int v_cut, .ref a_this_row, .int v_rowMany, .int v_taken, .int v_found, .ref a_this_text, .int v_textLong, .int v_at, .ref a_this_numbers, .int v_stopped, .ref a_this_before])), (a_this_refused, .inl (cI, 3, .inl v_refused))]
def f_X8_refuses  (v_refused : Nat → Int32) (x1 : Int32) : Option (Int32 × (Nat → Int32)) :=
  o_in (((-2139095050)) - x1) 3 (
  o_in (((-2139095050)) - x1) 3 (
  some (x1, upd v_refused (((-2139095050)) - x1).toNatClampNeg ((v_refused (((-2139095050)) - x1).toNatClampNeg) + 1))))
set_option maxHeartbeats 4000000 in
set_option maxRecDepth 100000 in
theorem w_X8_refuses_B0 {p : Program} {l : Launch} {e : Env} {s : State} {m : MethodId} {args : Array Value} {below : List Frame} {meth : Method} {c : Code} {D : va_G} {cI cM : ClassId} {A : Nat → Prop} {a_this a_this_all a_this_past a_this_refused a_this_box a_this_row a_this_text a_this_numbers a_this_before : Nat} {v_states : Int32} {v_empty : Int32} {v_cut : Int32} {v_rowMany : Int32} {v_taken : Int32} {v_found : Int32} {v_textLong : Int32} {v_at : Int32} {v_stopped : Int32} {r : Int32} {o_refused : Nat → Int32} (C0 : g_cx cX8_refuses (some .int) 2 RX8 wsX8_refuses p s m args meth c) (hA : ∀ q, s.heap.size ≤ q → A q) (hK : va_K D vwCl (g_tys cI cM) s) : ∀ (v_refused : Nat → Int32) (x1 : Int32) (H : Heap) (locs : List Loc) (ls : Array Slot), f_X8_refuses v_refused x1 = some (r, o_refused) → va_P D vwCl (ww_X8_refuses cI cM a_this a_this_all a_this_past a_this_refused a_this_box a_this_row a_this_text a_this_numbers a_this_before v_states v_empty v_cut v_rowMany v_taken v_found v_textLong v_at v_stopped v_refused) H → va_D A (ww_X8_refuses cI cM a_this a_this_all a_this_past a_this_refused a_this_box a_this_row a_this_text a_this_numbers a_this_before v_states v_empty v_cut v_rowMany v_taken v_found v_textLong v_at v_stopped v_refused) → va_S A s.heap H locs → lv_has ls 2 [(0, .ref a_this), (1, .int x1)] → W p l e rm_X8_refuses s m args below meth c H locs 0 0 (MQ below (g_QI D (g_tys cI cM) A (ww_X8_refuses cI cM a_this a_this_all a_this_past a_this_refused a_this_box a_this_row a_this_text a_this_numbers a_this_before v_states v_empty v_cut v_rowMany v_taken v_found v_textLong v_at v_stopped o_refused) r) args s 0 0 A) (F0 m 0 ls []) := by
  obtain ⟨hx, hb, hr, hml, hown, hts, hlocks⟩ := id C0
  intro v_refused x1 H locs ls hf hP hD hS hl
  unfold f_X8_refuses at hf
  refine lv_aload_n hx hb dX8_refuses_0 rfl (lv_at hl 0 rfl) ?_
  refine va_get (D := D) (ci := 6) (v := .ref a_this_refused) (C := RX8) (T := TX8) (N := 17) hx hb hts (fun _ h => (List.mem_cons_of_mem _ (List.mem_append_right _ h))) hown hK hP 0 rfl rfl 3 (by decide) (hts (.fieldLink RX8 16 "FloatBoxesModel" "refused" "[I") (List.mem_cons_of_mem _ (List.mem_append_left _ (List.mem_of_getElem? (i := 0) rfl)))) (fun _ h9 => h9) rfl dX8_refuses_1 ?_
  refine lv_ldc (v := (-2139095050)) hx hb hown (hts (.constant RX8 42 (-2139095050)) (List.mem_cons_of_mem _ (List.mem_append_left _ (List.mem_of_getElem? (i := 1) rfl)))) dX8_refuses_4 ?_
  refine lv_iload_n hx hb dX8_refuses_6 rfl (lv_at hl 1 rfl) ?_
  refine lv_isub hx hb dX8_refuses_7 ?_
  refine lv_dup2_11 hx hb dX8_refuses_8 rfl rfl ?_
  obtain ⟨h9, hf⟩ := o_in_go hf
  refine va_iald hx hb hK hP 1 0 rfl rfl h9 dX8_refuses_9 ?_
  refine lv_iconst (v := 1) hx hb dX8_refuses_10 (by decide) ?_
  refine lv_iadd hx hb dX8_refuses_11 ?_
  obtain ⟨h12, hf⟩ := o_in_go hf
  refine va_iast hx hb hK hP hD hS 1 0 rfl rfl h12 dX8_refuses_12 (fun H locs hP hD hS => ?_)
  replace hP : va_P D vwCl (ww_X8_refuses cI cM a_this a_this_all a_this_past a_this_refused a_this_box a_this_row a_this_text a_this_numbers a_this_before v_states v_empty v_cut v_rowMany v_taken v_found v_textLong v_at v_stopped (upd v_refused (((-2139095050)) - x1).toNatClampNeg ((v_refused (((-2139095050)) - x1).toNatClampNeg) + 1))) H := hP
  replace hD : va_D A (ww_X8_refuses cI cM a_this a_this_all a_this_past a_this_refused a_this_box a_this_row a_this_text a_this_numbers a_this_before v_states v_empty v_cut v_rowMany v_taken v_found v_textLong v_at v_stopped (upd v_refused (((-2139095050)) - x1).toNatClampNeg ((v_refused (((-2139095050)) - x1).toNatClampNeg) + 1))) := hD
  refine lv_iload_n hx hb dX8_refuses_13 rfl (lv_at hl 1 rfl) ?_
  obtain ⟨q0, y0⟩ := o_rp hf
  have q1 := Option.some.inj y0
  subst q0 q1
  exact g_iret hx hb hr hlocks hP hD hK hS dX8_refuses_14
set_option maxHeartbeats 4000000 in
set_option maxRecDepth 100000 in
theorem c_X8_refuses (l : Launch) (D : va_G) (cI cM : ClassId) (a_this a_this_all a_this_past a_this_refused a_this_box a_this_row a_this_text a_this_numbers a_this_before : Nat) (sz : Nat) (v_states : Int32) (v_empty : Int32) (v_cut : Int32) (v_rowMany : Int32) (v_taken : Int32) (v_found : Int32) (v_textLong : Int32) (v_at : Int32) (v_stopped : Int32) (v_refused : Nat → Int32) {x1 : Int32} {r : Int32} {o_refused : Nat → Int32} (hf : f_X8_refuses v_refused x1 = some (r, o_refused)) : Met l yX8_refuses wsX8_refuses rm_X8_refuses (g_Pc D (g_tys cI cM) (ww_X8_refuses cI cM a_this a_this_all a_this_past a_this_refused a_this_box a_this_row a_this_text a_this_numbers a_this_before v_states v_empty v_cut v_rowMany v_taken v_found v_textLong v_at v_stopped v_refused) sz [.ref a_this, .int x1]) (g_QI D (g_tys cI cM) (va_A (ww_X8_refuses cI cM a_this a_this_all a_this_past a_this_refused a_this_box a_this_row a_this_text a_this_numbers a_this_before v_states v_empty v_cut v_rowMany v_taken v_found v_textLong v_at v_stopped v_refused) sz) (ww_X8_refuses cI cM a_this a_this_all a_this_past a_this_refused a_this_box a_this_row a_this_text a_this_numbers a_this_before v_states v_empty v_cut v_rowMany v_taken v_found v_textLong v_at v_stopped o_refused) r) 0 0 (va_A (ww_X8_refuses cI cM a_this a_this_all a_this_past a_this_refused a_this_box a_this_row a_this_text a_this_numbers a_this_before v_states v_empty v_cut v_rowMany v_taken v_found v_textLong v_at v_stopped v_refused) sz) := by
  refine g_met (cc := cX8_refuses) (maxL := 2) (ret := (some .int)) (Qc := fun D A => g_QI D (g_tys cI cM) A (ww_X8_refuses cI cM a_this a_this_all a_this_past a_this_refused a_this_box a_this_row a_this_text a_this_numbers a_this_before v_states v_empty v_cut v_rowMany v_taken v_found v_textLong v_at v_stopped o_refused) r) (by decide) rfl ?_
  intro p e s m below meth c A C0 hA hK hP hD
  have hl := lv_entry ([.ref a_this, .int x1]) (n := 2) (Nat.le_of_ble_eq_true rfl)
  rw [lg_entry_eq]
  generalize (lg_sl ([.ref a_this, .int x1]) ++ List.replicate (2 - (lg_sl ([.ref a_this, .int x1])).length) Slot.unset).toArray = ls at hl ⊢
  have hl : lv_has ls 2 [(0, .ref a_this), (1, .int x1)] := hl
  exact w_X8_refuses_B0 C0 hA hK v_refused x1 s.heap [] ls hf hP hD va_S.rf (lv_sub hl [0, 1] rfl)
/-! FloatBoxesModel.keep()V -/
abbrev rm_X8_keep : Room := { frames := 0, cells := 0, slots := 0, locals := 0 }
abbrev ww_X8_keep (cI cM : ClassId) (a_this a_this_all a_this_past a_this_refused a_this_box a_this_row a_this_text a_this_numbers a_this_before : Nat) (v_states : Int32) (v_empty : Int32) (v_cut : Int32) (v_rowMany : Int32) (v_taken : Int32) (v_found : Int32) (v_textLong : Int32) (v_at : Int32) (v_stopped : Int32) (v_all : Nat → Int32) (v_past : Nat → Int32) : va_W := [(a_this, .inr (6, [.ref a_this_all, .ref a_this_past, .int v_states, .ref a_this_refused, .ref a_this_box, .int v_empty, .int v_cut, .ref a_this_row, .int v_rowMany, .int v_taken, .int v_found, .ref a_this_text, .int v_textLong, .int v_at, .ref a_this_numbers, .int v_stopped, .ref a_this_before])), (a_this_all, .inl (cI, 38, .inl v_all)), (a_this_past, .inl (cI, 190, .inl v_past))]
def f_X8_keep_C50 (N : Nat) (v_all : Nat → Int32) (k50 : Int32 → (Nat → Int32) → Int32 → Option (Int32 × (Nat → Int32))) (v_states : Int32) (v_past : Nat → Int32) (x1 : Int32) : Option (Int32 × (Nat → Int32)) :=
  if 38 ≤ x1 then
    some (v_states + 1, v_past)
  else
    o_in x1 38 (
    o_in ((38 * v_states) + x1) 190 (
    k50 v_states (upd v_past ((38 * v_states) + x1).toNatClampNeg (v_all x1.toNatClampNeg)) (x1 + 1)))
def f_X8_keep_L50 (N : Nat) (v_all : Nat → Int32) : Nat → Int32 → (Nat → Int32) → Int32 → Option (Int32 × (Nat → Int32))
  | 0 => fun _ _ _ => none
  | n + 1 => f_X8_keep_C50 N v_all (f_X8_keep_L50 N v_all n)
set_option maxHeartbeats 4000000 in
set_option maxRecDepth 100000 in
theorem w_X8_keep_C50 {p : Program} {l : Launch} {e : Env} {s : State} {m : MethodId} {args : Array Value} {below : List Frame} {meth : Method} {c : Code} {D : va_G} {cI cM : ClassId} {A : Nat → Prop} {a_this a_this_all a_this_past a_this_refused a_this_box a_this_row a_this_text a_this_numbers a_this_before : Nat} {v_empty : Int32} {v_cut : Int32} {v_rowMany : Int32} {v_taken : Int32} {v_found : Int32} {v_textLong : Int32} {v_at : Int32} {v_stopped : Int32} {N : Nat} {v_all : Nat → Int32} {o_states : Int32} {o_past : Nat → Int32} (C0 : g_cx cX8_keep none 2 RX8 wsX8_keep p s m args meth c) (hA : ∀ q, s.heap.size ≤ q → A q) (hK : va_K D vwCl (g_tys cI cM) s) (k50 : Int32 → (Nat → Int32) → Int32 → Option (Int32 × (Nat → Int32))) (hk50 : ∀ (v_states : Int32) (v_past : Nat → Int32) (x1 : Int32) (H : Heap) (locs : List Loc) (ls : Array Slot), k50 v_states v_past x1 = some (o_states, o_past) → va_P D vwCl (ww_X8_keep cI cM a_this a_this_all a_this_past a_this_refused a_this_box a_this_row a_this_text a_this_numbers a_this_before v_states v_empty v_cut v_rowMany v_taken v_found v_textLong v_at v_stopped v_all v_past) H → va_D A (ww_X8_keep cI cM a_this a_this_all a_this_past a_this_refused a_this_box a_this_row a_this_text a_this_numbers a_this_before v_states v_empty v_cut v_rowMany v_taken v_found v_textLong v_at v_stopped v_all v_past) → va_S A s.heap H locs → lv_has ls 2 [(0, .ref a_this), (1, .int x1)] → W p l e rm_X8_keep s m args below meth c H locs 0 0 (MQ below (g_QV D (g_tys cI cM) A (ww_X8_keep cI cM a_this a_this_all a_this_past a_this_refused a_this_box a_this_row a_this_text a_this_numbers a_this_before o_states v_empty v_cut v_rowMany v_taken v_found v_textLong v_at v_stopped v_all o_past)) args s 0 0 A) (F0 m 50 ls [])) : ∀ (v_states : Int32) (v_past : Nat → Int32) (x1 : Int32) (H : Heap) (locs : List Loc) (ls : Array Slot), f_X8_keep_C50 N v_all k50 v_states v_past x1 = some (o_states, o_past) → va_P D vwCl (ww_X8_keep cI cM a_this a_this_all a_this_past a_this_refused a_this_box a_this_row a_this_text a_this_numbers a_this_before v_states v_empty v_cut v_rowMany v_taken v_found v_textLong v_at v_stopped v_all v_past) H → va_D A (ww_X8_keep cI cM a_this a_this_all a_this_past a_this_refused a_this_box a_this_row a_this_text a_this_numbers a_this_before v_states v_empty v_cut v_rowMany v_taken v_found v_textLong v_at v_stopped v_all v_past) → va_S A s.heap H locs → lv_has ls 2 [(0, .ref a_this), (1, .int x1)] → W p l e rm_X8_keep s m args below meth c H locs 0 0 (MQ below (g_QV D (g_tys cI cM) A (ww_X8_keep cI cM a_this a_this_all a_this_past a_this_refused a_this_box a_this_row a_this_text a_this_numbers a_this_before o_states v_empty v_cut v_rowMany v_taken v_found v_textLong v_at v_stopped v_all o_past)) args s 0 0 A) (F0 m 50 ls []) := by
  obtain ⟨hx, hb, hr, hml, hown, hts, hlocks⟩ := id C0
  intro v_states v_past x1 H locs ls hf hP hD hS hl
  unfold f_X8_keep_C50 at hf
  refine lv_iload_n hx hb dX8_keep_50 rfl (lv_at hl 1 rfl) ?_
  refine lv_bipush (v := 38) hx hb dX8_keep_51 (by decide) ?_
  refine lv_icmp_ge (tgt := 82) hx hb dX8_keep_53 (by decide) (fun c53 => ?_) (fun c53 => ?_)
  · replace hf := o_t c53 hf
    refine lv_aload_n hx hb dX8_keep_82 rfl (lv_at hl 0 rfl) ?_
    refine lv_dup hx hb dX8_keep_83 rfl ?_
    refine va_get (D := D) (ci := 6) (v := .int v_states) (C := RX8) (T := TX8) (N := 17) hx hb hts (fun _ h => (List.mem_cons_of_mem _ (List.mem_append_right _ h))) hown hK hP 0 rfl rfl 2 (by decide) (hts (.fieldLink RX8 43 "FloatBoxesModel" "states" "I") (List.mem_cons_of_mem _ (List.mem_append_left _ (List.mem_of_getElem? (i := 0) rfl)))) (fun _ h9 => h9) rfl dX8_keep_84 ?_
    refine lv_iconst (v := 1) hx hb dX8_keep_87 (by decide) ?_
    refine lv_iadd hx hb dX8_keep_88 ?_
    refine va_put (D := D) (ci := 6) (v := .int (v_states + 1)) (ty := .int) (C := RX8) (T := TX8) (N := 17) hx hb hts (fun _ h => (List.mem_cons_of_mem _ (List.mem_append_right _ h))) tyX8 tyX8_ok nmX8 hown hK hP hD hS 0 rfl rfl 2 (by decide) (hts (.fieldLink RX8 43 "FloatBoxesModel" "states" "I") (List.mem_cons_of_mem _ (List.mem_append_left _ (List.mem_of_getElem? (i := 0) rfl)))) (fun _ h9 => h9) rfl (by decide +kernel) rfl rfl (Nat.le_of_ble_eq_true rfl) dX8_keep_89 (fun H locs hP hD hS => ?_)
    replace hP : va_P D vwCl (ww_X8_keep cI cM a_this a_this_all a_this_past a_this_refused a_this_box a_this_row a_this_text a_this_numbers a_this_before (v_states + 1) v_empty v_cut v_rowMany v_taken v_found v_textLong v_at v_stopped v_all v_past) H := hP
    replace hD : va_D A (ww_X8_keep cI cM a_this a_this_all a_this_past a_this_refused a_this_box a_this_row a_this_text a_this_numbers a_this_before (v_states + 1) v_empty v_cut v_rowMany v_taken v_found v_textLong v_at v_stopped v_all v_past) := hD
    obtain ⟨q0, y0⟩ := o_rp hf
    have q1 := Option.some.inj y0
    subst q0 q1
    exact g_vret hx hb hr hlocks hP hD hK hS dX8_keep_92
  · replace hf := o_f c53 hf
    refine lv_aload_n hx hb dX8_keep_56 rfl (lv_at hl 0 rfl) ?_
    refine va_get (D := D) (ci := 6) (v := .ref a_this_past) (C := RX8) (T := TX8) (N := 17) hx hb hts (fun _ h => (List.mem_cons_of_mem _ (List.mem_append_right _ h))) hown hK hP 0 rfl rfl 1 (by decide) (hts (.fieldLink RX8 13 "FloatBoxesModel" "past" "[I") (List.mem_cons_of_mem _ (List.mem_append_left _ (List.mem_of_getElem? (i := 1) rfl)))) (fun _ h9 => h9) rfl dX8_keep_57 ?_
    refine lv_bipush (v := 38) hx hb dX8_keep_60 (by decide) ?_
    refine lv_aload_n hx hb dX8_keep_62 rfl (lv_at hl 0 rfl) ?_
    refine va_get (D := D) (ci := 6) (v := .int v_states) (C := RX8) (T := TX8) (N := 17) hx hb hts (fun _ h => (List.mem_cons_of_mem _ (List.mem_append_right _ h))) hown hK hP 0 rfl rfl 2 (by decide) (hts (.fieldLink RX8 43 "FloatBoxesModel" "states" "I") (List.mem_cons_of_mem _ (List.mem_append_left _ (List.mem_of_getElem? (i := 0) rfl)))) (fun _ h9 => h9) rfl dX8_keep_63 ?_
    refine lv_imul hx hb dX8_keep_66 ?_
    refine lv_iload_n hx hb dX8_keep_67 rfl (lv_at hl 1 rfl) ?_
    refine lv_iadd hx hb dX8_keep_68 ?_
    refine lv_aload_n hx hb dX8_keep_69 rfl (lv_at hl 0 rfl) ?_
    refine va_get (D := D) (ci := 6) (v := .ref a_this_all) (C := RX8) (T := TX8) (N := 17) hx hb hts (fun _ h => (List.mem_cons_of_mem _ (List.mem_append_right _ h))) hown hK hP 0 rfl rfl 0 (by decide) (hts (.fieldLink RX8 7 "FloatBoxesModel" "all" "[I") (List.mem_cons_of_mem _ (List.mem_append_left _ (List.mem_of_getElem? (i := 2) rfl)))) (fun _ h9 => h9) rfl dX8_keep_70 ?_
    refine lv_iload_n hx hb dX8_keep_73 rfl (lv_at hl 1 rfl) ?_
    obtain ⟨h74, hf⟩ := o_in_go hf
    refine va_iald hx hb hK hP 1 0 rfl rfl h74 dX8_keep_74 ?_
    obtain ⟨h75, hf⟩ := o_in_go hf
    refine va_iast hx hb hK hP hD hS 2 0 rfl rfl h75 dX8_keep_75 (fun H locs hP hD hS => ?_)
    replace hP : va_P D vwCl (ww_X8_keep cI cM a_this a_this_all a_this_past a_this_refused a_this_box a_this_row a_this_text a_this_numbers a_this_before v_states v_empty v_cut v_rowMany v_taken v_found v_textLong v_at v_stopped v_all (upd v_past ((38 * v_states) + x1).toNatClampNeg (v_all x1.toNatClampNeg))) H := hP
    replace hD : va_D A (ww_X8_keep cI cM a_this a_this_all a_this_past a_this_refused a_this_box a_this_row a_this_text a_this_numbers a_this_before v_states v_empty v_cut v_rowMany v_taken v_found v_textLong v_at v_stopped v_all (upd v_past ((38 * v_states) + x1).toNatClampNeg (v_all x1.toNatClampNeg))) := hD
    refine lv_iinc (v := x1 + 1) (lv' := [(1, .int (x1 + 1)), (0, .ref a_this)]) hx hb dX8_keep_76 hl (k := 1) rfl rfl (by decide) rfl (fun ls hl => ?_)
    refine lv_goto (tgt := 50) hx hb dX8_keep_79 (by decide) ?_
    exact hk50 v_states (upd v_past ((38 * v_states) + x1).toNatClampNeg (v_all x1.toNatClampNeg)) (x1 + 1) H locs ls hf hP hD hS (lv_sub hl [1, 0] rfl)
set_option maxHeartbeats 4000000 in
set_option maxRecDepth 100000 in
theorem w_X8_keep_L50 {p : Program} {l : Launch} {e : Env} {s : State} {m : MethodId} {args : Array Value} {below : List Frame} {meth : Method} {c : Code} {D : va_G} {cI cM : ClassId} {A : Nat → Prop} {a_this a_this_all a_this_past a_this_refused a_this_box a_this_row a_this_text a_this_numbers a_this_before : Nat} {v_empty : Int32} {v_cut : Int32} {v_rowMany : Int32} {v_taken : Int32} {v_found : Int32} {v_textLong : Int32} {v_at : Int32} {v_stopped : Int32} {N : Nat} {v_all : Nat → Int32} {o_states : Int32} {o_past : Nat → Int32} (C0 : g_cx cX8_keep none 2 RX8 wsX8_keep p s m args meth c) (hA : ∀ q, s.heap.size ≤ q → A q) (hK : va_K D vwCl (g_tys cI cM) s) : ∀ n : Nat, ∀ (v_states : Int32) (v_past : Nat → Int32) (x1 : Int32) (H : Heap) (locs : List Loc) (ls : Array Slot), f_X8_keep_L50 N v_all n v_states v_past x1 = some (o_states, o_past) → va_P D vwCl (ww_X8_keep cI cM a_this a_this_all a_this_past a_this_refused a_this_box a_this_row a_this_text a_this_numbers a_this_before v_states v_empty v_cut v_rowMany v_taken v_found v_textLong v_at v_stopped v_all v_past) H → va_D A (ww_X8_keep cI cM a_this a_this_all a_this_past a_this_refused a_this_box a_this_row a_this_text a_this_numbers a_this_before v_states v_empty v_cut v_rowMany v_taken v_found v_textLong v_at v_stopped v_all v_past) → va_S A s.heap H locs → lv_has ls 2 [(0, .ref a_this), (1, .int x1)] → W p l e rm_X8_keep s m args below meth c H locs 0 0 (MQ below (g_QV D (g_tys cI cM) A (ww_X8_keep cI cM a_this a_this_all a_this_past a_this_refused a_this_box a_this_row a_this_text a_this_numbers a_this_before o_states v_empty v_cut v_rowMany v_taken v_found v_textLong v_at v_stopped v_all o_past)) args s 0 0 A) (F0 m 50 ls []) := by
  intro n
  induction n with
  | zero =>
    intro v_states v_past x1 H locs ls hf
    exact absurd hf (fun h => nomatch h)
  | succ n ih =>
    intro v_states v_past x1 H locs ls hf
    exact w_X8_keep_C50 C0 hA hK _ ih v_states v_past x1 H locs ls hf
def f_X8_keep_B48 (N : Nat) (v_all : Nat → Int32) (v_states : Int32) (v_past : Nat → Int32) : Option (Int32 × (Nat → Int32)) :=
  f_X8_keep_L50 N v_all N v_states v_past 0
set_option maxHeartbeats 4000000 in
set_option maxRecDepth 100000 in
theorem w_X8_keep_B48 {p : Program} {l : Launch} {e : Env} {s : State} {m : MethodId} {args : Array Value} {below : List Frame} {meth : Method} {c : Code} {D : va_G} {cI cM : ClassId} {A : Nat → Prop} {a_this a_this_all a_this_past a_this_refused a_this_box a_this_row a_this_text a_this_numbers a_this_before : Nat} {v_empty : Int32} {v_cut : Int32} {v_rowMany : Int32} {v_taken : Int32} {v_found : Int32} {v_textLong : Int32} {v_at : Int32} {v_stopped : Int32} {N : Nat} {v_all : Nat → Int32} {o_states : Int32} {o_past : Nat → Int32} (C0 : g_cx cX8_keep none 2 RX8 wsX8_keep p s m args meth c) (hA : ∀ q, s.heap.size ≤ q → A q) (hK : va_K D vwCl (g_tys cI cM) s) : ∀ (v_states : Int32) (v_past : Nat → Int32) (H : Heap) (locs : List Loc) (ls : Array Slot), f_X8_keep_B48 N v_all v_states v_past = some (o_states, o_past) → va_P D vwCl (ww_X8_keep cI cM a_this a_this_all a_this_past a_this_refused a_this_box a_this_row a_this_text a_this_numbers a_this_before v_states v_empty v_cut v_rowMany v_taken v_found v_textLong v_at v_stopped v_all v_past) H → va_D A (ww_X8_keep cI cM a_this a_this_all a_this_past a_this_refused a_this_box a_this_row a_this_text a_this_numbers a_this_before v_states v_empty v_cut v_rowMany v_taken v_found v_textLong v_at v_stopped v_all v_past) → va_S A s.heap H locs → lv_has ls 2 [(0, .ref a_this)] → W p l e rm_X8_keep s m args below meth c H locs 0 0 (MQ below (g_QV D (g_tys cI cM) A (ww_X8_keep cI cM a_this a_this_all a_this_past a_this_refused a_this_box a_this_row a_this_text a_this_numbers a_this_before o_states v_empty v_cut v_rowMany v_taken v_found v_textLong v_at v_stopped v_all o_past)) args s 0 0 A) (F0 m 48 ls []) := by
  obtain ⟨hx, hb, hr, hml, hown, hts, hlocks⟩ := id C0
  intro v_states v_past H locs ls hf hP hD hS hl
  unfold f_X8_keep_B48 at hf
  refine lv_iconst (v := 0) hx hb dX8_keep_48 (by decide) ?_
  refine lv_istore_n (lv' := [(1, .int 0), (0, .ref a_this)]) hx hb dX8_keep_49 rfl hl (by decide) rfl (fun ls hl => ?_)
  exact w_X8_keep_L50 C0 hA hK N v_states v_past 0 H locs ls hf hP hD hS (lv_sub hl [1, 0] rfl)
def f_X8_keep_C10 (N : Nat) (v_all : Nat → Int32) (k10 : Int32 → (Nat → Int32) → Int32 → Option (Int32 × (Nat → Int32))) (v_states : Int32) (v_past : Nat → Int32) (x1 : Int32) : Option (Int32 × (Nat → Int32)) :=
  if 152 ≤ x1 then
    f_X8_keep_B48 N v_all (v_states - 1) v_past
  else
    o_in (x1 + 38) 190 (
    o_in x1 190 (
    k10 v_states (upd v_past x1.toNatClampNeg (v_past (x1 + 38).toNatClampNeg)) (x1 + 1)))
def f_X8_keep_L10 (N : Nat) (v_all : Nat → Int32) : Nat → Int32 → (Nat → Int32) → Int32 → Option (Int32 × (Nat → Int32))
  | 0 => fun _ _ _ => none
  | n + 1 => f_X8_keep_C10 N v_all (f_X8_keep_L10 N v_all n)
set_option maxHeartbeats 4000000 in
set_option maxRecDepth 100000 in
theorem w_X8_keep_C10 {p : Program} {l : Launch} {e : Env} {s : State} {m : MethodId} {args : Array Value} {below : List Frame} {meth : Method} {c : Code} {D : va_G} {cI cM : ClassId} {A : Nat → Prop} {a_this a_this_all a_this_past a_this_refused a_this_box a_this_row a_this_text a_this_numbers a_this_before : Nat} {v_empty : Int32} {v_cut : Int32} {v_rowMany : Int32} {v_taken : Int32} {v_found : Int32} {v_textLong : Int32} {v_at : Int32} {v_stopped : Int32} {N : Nat} {v_all : Nat → Int32} {o_states : Int32} {o_past : Nat → Int32} (C0 : g_cx cX8_keep none 2 RX8 wsX8_keep p s m args meth c) (hA : ∀ q, s.heap.size ≤ q → A q) (hK : va_K D vwCl (g_tys cI cM) s) (k10 : Int32 → (Nat → Int32) → Int32 → Option (Int32 × (Nat → Int32))) (hk10 : ∀ (v_states : Int32) (v_past : Nat → Int32) (x1 : Int32) (H : Heap) (locs : List Loc) (ls : Array Slot), k10 v_states v_past x1 = some (o_states, o_past) → va_P D vwCl (ww_X8_keep cI cM a_this a_this_all a_this_past a_this_refused a_this_box a_this_row a_this_text a_this_numbers a_this_before v_states v_empty v_cut v_rowMany v_taken v_found v_textLong v_at v_stopped v_all v_past) H → va_D A (ww_X8_keep cI cM a_this a_this_all a_this_past a_this_refused a_this_box a_this_row a_this_text a_this_numbers a_this_before v_states v_empty v_cut v_rowMany v_taken v_found v_textLong v_at v_stopped v_all v_past) → va_S A s.heap H locs → lv_has ls 2 [(0, .ref a_this), (1, .int x1)] → W p l e rm_X8_keep s m args below meth c H locs 0 0 (MQ below (g_QV D (g_tys cI cM) A (ww_X8_keep cI cM a_this a_this_all a_this_past a_this_refused a_this_box a_this_row a_this_text a_this_numbers a_this_before o_states v_empty v_cut v_rowMany v_taken v_found v_textLong v_at v_stopped v_all o_past)) args s 0 0 A) (F0 m 10 ls [])) : ∀ (v_states : Int32) (v_past : Nat → Int32) (x1 : Int32) (H : Heap) (locs : List Loc) (ls : Array Slot), f_X8_keep_C10 N v_all k10 v_states v_past x1 = some (o_states, o_past) → va_P D vwCl (ww_X8_keep cI cM a_this a_this_all a_this_past a_this_refused a_this_box a_this_row a_this_text a_this_numbers a_this_before v_states v_empty v_cut v_rowMany v_taken v_found v_textLong v_at v_stopped v_all v_past) H → va_D A (ww_X8_keep cI cM a_this a_this_all a_this_past a_this_refused a_this_box a_this_row a_this_text a_this_numbers a_this_before v_states v_empty v_cut v_rowMany v_taken v_found v_textLong v_at v_stopped v_all v_past) → va_S A s.heap H locs → lv_has ls 2 [(0, .ref a_this), (1, .int x1)] → W p l e rm_X8_keep s m args below meth c H locs 0 0 (MQ below (g_QV D (g_tys cI cM) A (ww_X8_keep cI cM a_this a_this_all a_this_past a_this_refused a_this_box a_this_row a_this_text a_this_numbers a_this_before o_states v_empty v_cut v_rowMany v_taken v_found v_textLong v_at v_stopped v_all o_past)) args s 0 0 A) (F0 m 10 ls []) := by
  obtain ⟨hx, hb, hr, hml, hown, hts, hlocks⟩ := id C0
  intro v_states v_past x1 H locs ls hf hP hD hS hl
  unfold f_X8_keep_C10 at hf
  refine lv_iload_n hx hb dX8_keep_10 rfl (lv_at hl 1 rfl) ?_
  refine lv_sipush (v := 152) hx hb dX8_keep_11 (by decide) ?_
  refine lv_icmp_ge (tgt := 38) hx hb dX8_keep_14 (by decide) (fun c14 => ?_) (fun c14 => ?_)
  · replace hf := o_t c14 hf
    refine lv_aload_n hx hb dX8_keep_38 rfl (lv_at hl 0 rfl) ?_
    refine lv_dup hx hb dX8_keep_39 rfl ?_
    refine va_get (D := D) (ci := 6) (v := .int v_states) (C := RX8) (T := TX8) (N := 17) hx hb hts (fun _ h => (List.mem_cons_of_mem _ (List.mem_append_right _ h))) hown hK hP 0 rfl rfl 2 (by decide) (hts (.fieldLink RX8 43 "FloatBoxesModel" "states" "I") (List.mem_cons_of_mem _ (List.mem_append_left _ (List.mem_of_getElem? (i := 0) rfl)))) (fun _ h9 => h9) rfl dX8_keep_40 ?_
    refine lv_iconst (v := 1) hx hb dX8_keep_43 (by decide) ?_
    refine lv_isub hx hb dX8_keep_44 ?_
    refine va_put (D := D) (ci := 6) (v := .int (v_states - 1)) (ty := .int) (C := RX8) (T := TX8) (N := 17) hx hb hts (fun _ h => (List.mem_cons_of_mem _ (List.mem_append_right _ h))) tyX8 tyX8_ok nmX8 hown hK hP hD hS 0 rfl rfl 2 (by decide) (hts (.fieldLink RX8 43 "FloatBoxesModel" "states" "I") (List.mem_cons_of_mem _ (List.mem_append_left _ (List.mem_of_getElem? (i := 0) rfl)))) (fun _ h9 => h9) rfl (by decide +kernel) rfl rfl (Nat.le_of_ble_eq_true rfl) dX8_keep_45 (fun H locs hP hD hS => ?_)
    replace hP : va_P D vwCl (ww_X8_keep cI cM a_this a_this_all a_this_past a_this_refused a_this_box a_this_row a_this_text a_this_numbers a_this_before (v_states - 1) v_empty v_cut v_rowMany v_taken v_found v_textLong v_at v_stopped v_all v_past) H := hP
    replace hD : va_D A (ww_X8_keep cI cM a_this a_this_all a_this_past a_this_refused a_this_box a_this_row a_this_text a_this_numbers a_this_before (v_states - 1) v_empty v_cut v_rowMany v_taken v_found v_textLong v_at v_stopped v_all v_past) := hD
    exact w_X8_keep_B48 C0 hA hK (v_states - 1) v_past H locs ls hf hP hD hS (lv_sub hl [0] rfl)
  · replace hf := o_f c14 hf
    refine lv_aload_n hx hb dX8_keep_17 rfl (lv_at hl 0 rfl) ?_
    refine va_get (D := D) (ci := 6) (v := .ref a_this_past) (C := RX8) (T := TX8) (N := 17) hx hb hts (fun _ h => (List.mem_cons_of_mem _ (List.mem_append_right _ h))) hown hK hP 0 rfl rfl 1 (by decide) (hts (.fieldLink RX8 13 "FloatBoxesModel" "past" "[I") (List.mem_cons_of_mem _ (List.mem_append_left _ (List.mem_of_getElem? (i := 1) rfl)))) (fun _ h9 => h9) rfl dX8_keep_18 ?_
    refine lv_iload_n hx hb dX8_keep_21 rfl (lv_at hl 1 rfl) ?_
    refine lv_aload_n hx hb dX8_keep_22 rfl (lv_at hl 0 rfl) ?_
    refine va_get (D := D) (ci := 6) (v := .ref a_this_past) (C := RX8) (T := TX8) (N := 17) hx hb hts (fun _ h => (List.mem_cons_of_mem _ (List.mem_append_right _ h))) hown hK hP 0 rfl rfl 1 (by decide) (hts (.fieldLink RX8 13 "FloatBoxesModel" "past" "[I") (List.mem_cons_of_mem _ (List.mem_append_left _ (List.mem_of_getElem? (i := 1) rfl)))) (fun _ h9 => h9) rfl dX8_keep_23 ?_
    refine lv_iload_n hx hb dX8_keep_26 rfl (lv_at hl 1 rfl) ?_
    refine lv_bipush (v := 38) hx hb dX8_keep_27 (by decide) ?_
    refine lv_iadd hx hb dX8_keep_29 ?_
    obtain ⟨h30, hf⟩ := o_in_go hf
    refine va_iald hx hb hK hP 2 0 rfl rfl h30 dX8_keep_30 ?_
    obtain ⟨h31, hf⟩ := o_in_go hf
    refine va_iast hx hb hK hP hD hS 2 0 rfl rfl h31 dX8_keep_31 (fun H locs hP hD hS => ?_)
    replace hP : va_P D vwCl (ww_X8_keep cI cM a_this a_this_all a_this_past a_this_refused a_this_box a_this_row a_this_text a_this_numbers a_this_before v_states v_empty v_cut v_rowMany v_taken v_found v_textLong v_at v_stopped v_all (upd v_past x1.toNatClampNeg (v_past (x1 + 38).toNatClampNeg))) H := hP
    replace hD : va_D A (ww_X8_keep cI cM a_this a_this_all a_this_past a_this_refused a_this_box a_this_row a_this_text a_this_numbers a_this_before v_states v_empty v_cut v_rowMany v_taken v_found v_textLong v_at v_stopped v_all (upd v_past x1.toNatClampNeg (v_past (x1 + 38).toNatClampNeg))) := hD
    refine lv_iinc (v := x1 + 1) (lv' := [(1, .int (x1 + 1)), (0, .ref a_this)]) hx hb dX8_keep_32 hl (k := 1) rfl rfl (by decide) rfl (fun ls hl => ?_)
    refine lv_goto (tgt := 10) hx hb dX8_keep_35 (by decide) ?_
    exact hk10 v_states (upd v_past x1.toNatClampNeg (v_past (x1 + 38).toNatClampNeg)) (x1 + 1) H locs ls hf hP hD hS (lv_sub hl [1, 0] rfl)
set_option maxHeartbeats 4000000 in
set_option maxRecDepth 100000 in
theorem w_X8_keep_L10 {p : Program} {l : Launch} {e : Env} {s : State} {m : MethodId} {args : Array Value} {below : List Frame} {meth : Method} {c : Code} {D : va_G} {cI cM : ClassId} {A : Nat → Prop} {a_this a_this_all a_this_past a_this_refused a_this_box a_this_row a_this_text a_this_numbers a_this_before : Nat} {v_empty : Int32} {v_cut : Int32} {v_rowMany : Int32} {v_taken : Int32} {v_found : Int32} {v_textLong : Int32} {v_at : Int32} {v_stopped : Int32} {N : Nat} {v_all : Nat → Int32} {o_states : Int32} {o_past : Nat → Int32} (C0 : g_cx cX8_keep none 2 RX8 wsX8_keep p s m args meth c) (hA : ∀ q, s.heap.size ≤ q → A q) (hK : va_K D vwCl (g_tys cI cM) s) : ∀ n : Nat, ∀ (v_states : Int32) (v_past : Nat → Int32) (x1 : Int32) (H : Heap) (locs : List Loc) (ls : Array Slot), f_X8_keep_L10 N v_all n v_states v_past x1 = some (o_states, o_past) → va_P D vwCl (ww_X8_keep cI cM a_this a_this_all a_this_past a_this_refused a_this_box a_this_row a_this_text a_this_numbers a_this_before v_states v_empty v_cut v_rowMany v_taken v_found v_textLong v_at v_stopped v_all v_past) H → va_D A (ww_X8_keep cI cM a_this a_this_all a_this_past a_this_refused a_this_box a_this_row a_this_text a_this_numbers a_this_before v_states v_empty v_cut v_rowMany v_taken v_found v_textLong v_at v_stopped v_all v_past) → va_S A s.heap H locs → lv_has ls 2 [(0, .ref a_this), (1, .int x1)] → W p l e rm_X8_keep s m args below meth c H locs 0 0 (MQ below (g_QV D (g_tys cI cM) A (ww_X8_keep cI cM a_this a_this_all a_this_past a_this_refused a_this_box a_this_row a_this_text a_this_numbers a_this_before o_states v_empty v_cut v_rowMany v_taken v_found v_textLong v_at v_stopped v_all o_past)) args s 0 0 A) (F0 m 10 ls []) := by
  intro n
  induction n with
  | zero =>
    intro v_states v_past x1 H locs ls hf
    exact absurd hf (fun h => nomatch h)
  | succ n ih =>
    intro v_states v_past x1 H locs ls hf
    exact w_X8_keep_C10 C0 hA hK _ ih v_states v_past x1 H locs ls hf
def f_X8_keep (N : Nat) (v_all : Nat → Int32) (v_states : Int32) (v_past : Nat → Int32) : Option (Int32 × (Nat → Int32)) :=
  if v_states = 5 then
    f_X8_keep_L10 N v_all N v_states v_past 0
  else
    f_X8_keep_B48 N v_all v_states v_past
set_option maxHeartbeats 4000000 in
set_option maxRecDepth 100000 in
theorem w_X8_keep_B0 {p : Program} {l : Launch} {e : Env} {s : State} {m : MethodId} {args : Array Value} {below : List Frame} {meth : Method} {c : Code} {D : va_G} {cI cM : ClassId} {A : Nat → Prop} {a_this a_this_all a_this_past a_this_refused a_this_box a_this_row a_this_text a_this_numbers a_this_before : Nat} {v_empty : Int32} {v_cut : Int32} {v_rowMany : Int32} {v_taken : Int32} {v_found : Int32} {v_textLong : Int32} {v_at : Int32} {v_stopped : Int32} {N : Nat} {v_all : Nat → Int32} {o_states : Int32} {o_past : Nat → Int32} (C0 : g_cx cX8_keep none 2 RX8 wsX8_keep p s m args meth c) (hA : ∀ q, s.heap.size ≤ q → A q) (hK : va_K D vwCl (g_tys cI cM) s) : ∀ (v_states : Int32) (v_past : Nat → Int32) (H : Heap) (locs : List Loc) (ls : Array Slot), f_X8_keep N v_all v_states v_past = some (o_states, o_past) → va_P D vwCl (ww_X8_keep cI cM a_this a_this_all a_this_past a_this_refused a_this_box a_this_row a_this_text a_this_numbers a_this_before v_states v_empty v_cut v_rowMany v_taken v_found v_textLong v_at v_stopped v_all v_past) H → va_D A (ww_X8_keep cI cM a_this a_this_all a_this_past a_this_refused a_this_box a_this_row a_this_text a_this_numbers a_this_before v_states v_empty v_cut v_rowMany v_taken v_found v_textLong v_at v_stopped v_all v_past) → va_S A s.heap H locs → lv_has ls 2 [(0, .ref a_this)] → W p l e rm_X8_keep s m args below meth c H locs 0 0 (MQ below (g_QV D (g_tys cI cM) A (ww_X8_keep cI cM a_this a_this_all a_this_past a_this_refused a_this_box a_this_row a_this_text a_this_numbers a_this_before o_states v_empty v_cut v_rowMany v_taken v_found v_textLong v_at v_stopped v_all o_past)) args s 0 0 A) (F0 m 0 ls []) := by
  obtain ⟨hx, hb, hr, hml, hown, hts, hlocks⟩ := id C0
  intro v_states v_past H locs ls hf hP hD hS hl
  unfold f_X8_keep at hf
  refine lv_aload_n hx hb dX8_keep_0 rfl (lv_at hl 0 rfl) ?_
  refine va_get (D := D) (ci := 6) (v := .int v_states) (C := RX8) (T := TX8) (N := 17) hx hb hts (fun _ h => (List.mem_cons_of_mem _ (List.mem_append_right _ h))) hown hK hP 0 rfl rfl 2 (by decide) (hts (.fieldLink RX8 43 "FloatBoxesModel" "states" "I") (List.mem_cons_of_mem _ (List.mem_append_left _ (List.mem_of_getElem? (i := 0) rfl)))) (fun _ h9 => h9) rfl dX8_keep_1 ?_
  refine lv_iconst (v := 5) hx hb dX8_keep_4 (by decide) ?_
  refine lv_icmp_ne (tgt := 48) hx hb dX8_keep_5 (by decide) (fun c5 => ?_) (fun c5 => ?_)
  · replace hf := o_f c5 hf
    exact w_X8_keep_B48 C0 hA hK v_states v_past H locs ls hf hP hD hS (lv_sub hl [0] rfl)
  · replace hf := o_t c5 hf
    refine lv_iconst (v := 0) hx hb dX8_keep_8 (by decide) ?_
    refine lv_istore_n (lv' := [(1, .int 0), (0, .ref a_this)]) hx hb dX8_keep_9 rfl hl (by decide) rfl (fun ls hl => ?_)
    exact w_X8_keep_L10 C0 hA hK N v_states v_past 0 H locs ls hf hP hD hS (lv_sub hl [1, 0] rfl)
set_option maxHeartbeats 4000000 in
set_option maxRecDepth 100000 in
theorem c_X8_keep (l : Launch) (D : va_G) (cI cM : ClassId) (a_this a_this_all a_this_past a_this_refused a_this_box a_this_row a_this_text a_this_numbers a_this_before : Nat) (sz : Nat) (v_states : Int32) (v_empty : Int32) (v_cut : Int32) (v_rowMany : Int32) (v_taken : Int32) (v_found : Int32) (v_textLong : Int32) (v_at : Int32) (v_stopped : Int32) (v_all : Nat → Int32) (v_past : Nat → Int32) {N : Nat} {o_states : Int32} {o_past : Nat → Int32} (hf : f_X8_keep N v_all v_states v_past = some (o_states, o_past)) : Met l yX8_keep wsX8_keep rm_X8_keep (g_Pc D (g_tys cI cM) (ww_X8_keep cI cM a_this a_this_all a_this_past a_this_refused a_this_box a_this_row a_this_text a_this_numbers a_this_before v_states v_empty v_cut v_rowMany v_taken v_found v_textLong v_at v_stopped v_all v_past) sz [.ref a_this]) (g_QV D (g_tys cI cM) (va_A (ww_X8_keep cI cM a_this a_this_all a_this_past a_this_refused a_this_box a_this_row a_this_text a_this_numbers a_this_before v_states v_empty v_cut v_rowMany v_taken v_found v_textLong v_at v_stopped v_all v_past) sz) (ww_X8_keep cI cM a_this a_this_all a_this_past a_this_refused a_this_box a_this_row a_this_text a_this_numbers a_this_before o_states v_empty v_cut v_rowMany v_taken v_found v_textLong v_at v_stopped v_all o_past)) 0 0 (va_A (ww_X8_keep cI cM a_this a_this_all a_this_past a_this_refused a_this_box a_this_row a_this_text a_this_numbers a_this_before v_states v_empty v_cut v_rowMany v_taken v_found v_textLong v_at v_stopped v_all v_past) sz) := by
  refine g_met (cc := cX8_keep) (maxL := 2) (ret := none) (Qc := fun D A => g_QV D (g_tys cI cM) A (ww_X8_keep cI cM a_this a_this_all a_this_past a_this_refused a_this_box a_this_row a_this_text a_this_numbers a_this_before o_states v_empty v_cut v_rowMany v_taken v_found v_textLong v_at v_stopped v_all o_past)) (by decide) rfl ?_
  intro p e s m below meth c A C0 hA hK hP hD
  have hl := lv_entry ([.ref a_this]) (n := 2) (Nat.le_of_ble_eq_true rfl)
  rw [lg_entry_eq]
  generalize (lg_sl ([.ref a_this]) ++ List.replicate (2 - (lg_sl ([.ref a_this])).length) Slot.unset).toArray = ls at hl ⊢
  have hl : lv_has ls 2 [(0, .ref a_this)] := hl
  exact w_X8_keep_B0 C0 hA hK v_states v_past s.heap [] ls hf hP hD va_S.rf (lv_sub hl [0] rfl)
/-! FloatBoxesModel.unknowns()I -/
abbrev rm_X8_unknowns : Room := { frames := 0, cells := 0, slots := 0, locals := 0 }
abbrev ww_X8_unknowns (cI cM : ClassId) (a_this a_this_all a_this_past a_this_refused a_this_box a_this_row a_this_text a_this_numbers a_this_before : Nat) (v_states : Int32) (v_empty : Int32) (v_cut : Int32) (v_rowMany : Int32) (v_taken : Int32) (v_found : Int32) (v_textLong : Int32) (v_at : Int32) (v_stopped : Int32) (v_all : Nat → Int32) : va_W := [(a_this, .inr (6, [.ref a_this_all, .ref a_this_past, .int v_states, .ref a_this_refused, .ref a_this_box, .int v_empty, .int v_cut, .ref a_this_row, .int v_rowMany, .int v_taken, .int v_found, .ref a_this_text, .int v_textLong, .int v_at, .ref a_this_numbers, .int v_stopped, .ref a_this_before])), (a_this_all, .inl (cI, 38, .inl v_all))]
def f_X8_unknowns (v_all : Nat → Int32) : Option (Int32) :=
  o_in 0 38 (
  some (v_all (0 : Int32).toNatClampNeg))
set_option maxHeartbeats 4000000 in
set_option maxRecDepth 100000 in
theorem w_X8_unknowns_B0 {p : Program} {l : Launch} {e : Env} {s : State} {m : MethodId} {args : Array Value} {below : List Frame} {meth : Method} {c : Code} {D : va_G} {cI cM : ClassId} {A : Nat → Prop} {a_this a_this_all a_this_past a_this_refused a_this_box a_this_row a_this_text a_this_numbers a_this_before : Nat} {v_states : Int32} {v_empty : Int32} {v_cut : Int32} {v_rowMany : Int32} {v_taken : Int32} {v_found : Int32} {v_textLong : Int32} {v_at : Int32} {v_stopped : Int32} {v_all : Nat → Int32} {r : Int32} (C0 : g_cx cX8_unknowns (some .int) 1 RX8 wsX8_unknowns p s m args meth c) (hA : ∀ q, s.heap.size ≤ q → A q) (hK : va_K D vwCl (g_tys cI cM) s) : ∀ (H : Heap) (locs : List Loc) (ls : Array Slot), f_X8_unknowns v_all = some r → va_P D vwCl (ww_X8_unknowns cI cM a_this a_this_all a_this_past a_this_refused a_this_box a_this_row a_this_text a_this_numbers a_this_before v_states v_empty v_cut v_rowMany v_taken v_found v_textLong v_at v_stopped v_all) H → va_D A (ww_X8_unknowns cI cM a_this a_this_all a_this_past a_this_refused a_this_box a_this_row a_this_text a_this_numbers a_this_before v_states v_empty v_cut v_rowMany v_taken v_found v_textLong v_at v_stopped v_all) → va_S A s.heap H locs → lv_has ls 1 [(0, .ref a_this)] → W p l e rm_X8_unknowns s m args below meth c H locs 0 0 (MQ below (g_QI D (g_tys cI cM) A (ww_X8_unknowns cI cM a_this a_this_all a_this_past a_this_refused a_this_box a_this_row a_this_text a_this_numbers a_this_before v_states v_empty v_cut v_rowMany v_taken v_found v_textLong v_at v_stopped v_all) r) args s 0 0 A) (F0 m 0 ls []) := by
  obtain ⟨hx, hb, hr, hml, hown, hts, hlocks⟩ := id C0
  intro H locs ls hf hP hD hS hl
  unfold f_X8_unknowns at hf
  refine lv_aload_n hx hb dX8_unknowns_0 rfl (lv_at hl 0 rfl) ?_
  refine va_get (D := D) (ci := 6) (v := .ref a_this_all) (C := RX8) (T := TX8) (N := 17) hx hb hts (fun _ h => (List.mem_cons_of_mem _ (List.mem_append_right _ h))) hown hK hP 0 rfl rfl 0 (by decide) (hts (.fieldLink RX8 7 "FloatBoxesModel" "all" "[I") (List.mem_cons_of_mem _ (List.mem_append_left _ (List.mem_of_getElem? (i := 0) rfl)))) (fun _ h9 => h9) rfl dX8_unknowns_1 ?_
  refine lv_iconst (v := 0) hx hb dX8_unknowns_4 (by decide) ?_
  obtain ⟨h5, hf⟩ := o_in_go hf
  refine va_iald hx hb hK hP 1 0 rfl rfl h5 dX8_unknowns_5 ?_
  have q0 := Option.some.inj hf
  subst q0
  exact g_iret hx hb hr hlocks hP hD hK hS dX8_unknowns_6
set_option maxHeartbeats 4000000 in
set_option maxRecDepth 100000 in
theorem c_X8_unknowns (l : Launch) (D : va_G) (cI cM : ClassId) (a_this a_this_all a_this_past a_this_refused a_this_box a_this_row a_this_text a_this_numbers a_this_before : Nat) (sz : Nat) (v_states : Int32) (v_empty : Int32) (v_cut : Int32) (v_rowMany : Int32) (v_taken : Int32) (v_found : Int32) (v_textLong : Int32) (v_at : Int32) (v_stopped : Int32) (v_all : Nat → Int32) {r : Int32} (hf : f_X8_unknowns v_all = some r) : Met l yX8_unknowns wsX8_unknowns rm_X8_unknowns (g_Pc D (g_tys cI cM) (ww_X8_unknowns cI cM a_this a_this_all a_this_past a_this_refused a_this_box a_this_row a_this_text a_this_numbers a_this_before v_states v_empty v_cut v_rowMany v_taken v_found v_textLong v_at v_stopped v_all) sz [.ref a_this]) (g_QI D (g_tys cI cM) (va_A (ww_X8_unknowns cI cM a_this a_this_all a_this_past a_this_refused a_this_box a_this_row a_this_text a_this_numbers a_this_before v_states v_empty v_cut v_rowMany v_taken v_found v_textLong v_at v_stopped v_all) sz) (ww_X8_unknowns cI cM a_this a_this_all a_this_past a_this_refused a_this_box a_this_row a_this_text a_this_numbers a_this_before v_states v_empty v_cut v_rowMany v_taken v_found v_textLong v_at v_stopped v_all) r) 0 0 (va_A (ww_X8_unknowns cI cM a_this a_this_all a_this_past a_this_refused a_this_box a_this_row a_this_text a_this_numbers a_this_before v_states v_empty v_cut v_rowMany v_taken v_found v_textLong v_at v_stopped v_all) sz) := by
  refine g_met (cc := cX8_unknowns) (maxL := 1) (ret := (some .int)) (Qc := fun D A => g_QI D (g_tys cI cM) A (ww_X8_unknowns cI cM a_this a_this_all a_this_past a_this_refused a_this_box a_this_row a_this_text a_this_numbers a_this_before v_states v_empty v_cut v_rowMany v_taken v_found v_textLong v_at v_stopped v_all) r) (by decide) rfl ?_
  intro p e s m below meth c A C0 hA hK hP hD
  have hl := lv_entry ([.ref a_this]) (n := 1) (Nat.le_of_ble_eq_true rfl)
  rw [lg_entry_eq]
  generalize (lg_sl ([.ref a_this]) ++ List.replicate (1 - (lg_sl ([.ref a_this])).length) Slot.unset).toArray = ls at hl ⊢
  have hl : lv_has ls 1 [(0, .ref a_this)] := hl
  exact w_X8_unknowns_B0 C0 hA hK s.heap [] ls hf hP hD va_S.rf (lv_sub hl [0] rfl)
/-! FloatBoxesModel.rules()I -/
abbrev rm_X8_rules : Room := { frames := 0, cells := 0, slots := 0, locals := 0 }
abbrev ww_X8_rules (cI cM : ClassId) (a_this a_this_all a_this_past a_this_refused a_this_box a_this_row a_this_text a_this_numbers a_this_before : Nat) (v_states : Int32) (v_empty : Int32) (v_cut : Int32) (v_rowMany : Int32) (v_taken : Int32) (v_found : Int32) (v_textLong : Int32) (v_at : Int32) (v_stopped : Int32) (v_all : Nat → Int32) : va_W := [(a_this, .inr (6, [.ref a_this_all, .ref a_this_past, .int v_states, .ref a_this_refused, .ref a_this_box, .int v_empty, .int v_cut, .ref a_this_row, .int v_rowMany, .int v_taken, .int v_found, .ref a_this_text, .int v_textLong, .int v_at, .ref a_this_numbers, .int v_stopped, .ref a_this_before])), (a_this_all, .inl (cI, 38, .inl v_all))]
def f_X8_rules (v_all : Nat → Int32) : Option (Int32) :=
  o_in 13 38 (
  some (v_all (13 : Int32).toNatClampNeg))
set_option maxHeartbeats 4000000 in
set_option maxRecDepth 100000 in
theorem w_X8_rules_B0 {p : Program} {l : Launch} {e : Env} {s : State} {m : MethodId} {args : Array Value} {below : List Frame} {meth : Method} {c : Code} {D : va_G} {cI cM : ClassId} {A : Nat → Prop} {a_this a_this_all a_this_past a_this_refused a_this_box a_this_row a_this_text a_this_numbers a_this_before : Nat} {v_states : Int32} {v_empty : Int32} {v_cut : Int32} {v_rowMany : Int32} {v_taken : Int32} {v_found : Int32} {v_textLong : Int32} {v_at : Int32} {v_stopped : Int32} {v_all : Nat → Int32} {r : Int32} (C0 : g_cx cX8_rules (some .int) 1 RX8 wsX8_rules p s m args meth c) (hA : ∀ q, s.heap.size ≤ q → A q) (hK : va_K D vwCl (g_tys cI cM) s) : ∀ (H : Heap) (locs : List Loc) (ls : Array Slot), f_X8_rules v_all = some r → va_P D vwCl (ww_X8_rules cI cM a_this a_this_all a_this_past a_this_refused a_this_box a_this_row a_this_text a_this_numbers a_this_before v_states v_empty v_cut v_rowMany v_taken v_found v_textLong v_at v_stopped v_all) H → va_D A (ww_X8_rules cI cM a_this a_this_all a_this_past a_this_refused a_this_box a_this_row a_this_text a_this_numbers a_this_before v_states v_empty v_cut v_rowMany v_taken v_found v_textLong v_at v_stopped v_all) → va_S A s.heap H locs → lv_has ls 1 [(0, .ref a_this)] → W p l e rm_X8_rules s m args below meth c H locs 0 0 (MQ below (g_QI D (g_tys cI cM) A (ww_X8_rules cI cM a_this a_this_all a_this_past a_this_refused a_this_box a_this_row a_this_text a_this_numbers a_this_before v_states v_empty v_cut v_rowMany v_taken v_found v_textLong v_at v_stopped v_all) r) args s 0 0 A) (F0 m 0 ls []) := by
  obtain ⟨hx, hb, hr, hml, hown, hts, hlocks⟩ := id C0
  intro H locs ls hf hP hD hS hl
  unfold f_X8_rules at hf
  refine lv_aload_n hx hb dX8_rules_0 rfl (lv_at hl 0 rfl) ?_
  refine va_get (D := D) (ci := 6) (v := .ref a_this_all) (C := RX8) (T := TX8) (N := 17) hx hb hts (fun _ h => (List.mem_cons_of_mem _ (List.mem_append_right _ h))) hown hK hP 0 rfl rfl 0 (by decide) (hts (.fieldLink RX8 7 "FloatBoxesModel" "all" "[I") (List.mem_cons_of_mem _ (List.mem_append_left _ (List.mem_of_getElem? (i := 0) rfl)))) (fun _ h9 => h9) rfl dX8_rules_1 ?_
  refine lv_bipush (v := 13) hx hb dX8_rules_4 (by decide) ?_
  obtain ⟨h6, hf⟩ := o_in_go hf
  refine va_iald hx hb hK hP 1 0 rfl rfl h6 dX8_rules_6 ?_
  have q0 := Option.some.inj hf
  subst q0
  exact g_iret hx hb hr hlocks hP hD hK hS dX8_rules_7
set_option maxHeartbeats 4000000 in
set_option maxRecDepth 100000 in
theorem c_X8_rules (l : Launch) (D : va_G) (cI cM : ClassId) (a_this a_this_all a_this_past a_this_refused a_this_box a_this_row a_this_text a_this_numbers a_this_before : Nat) (sz : Nat) (v_states : Int32) (v_empty : Int32) (v_cut : Int32) (v_rowMany : Int32) (v_taken : Int32) (v_found : Int32) (v_textLong : Int32) (v_at : Int32) (v_stopped : Int32) (v_all : Nat → Int32) {r : Int32} (hf : f_X8_rules v_all = some r) : Met l yX8_rules wsX8_rules rm_X8_rules (g_Pc D (g_tys cI cM) (ww_X8_rules cI cM a_this a_this_all a_this_past a_this_refused a_this_box a_this_row a_this_text a_this_numbers a_this_before v_states v_empty v_cut v_rowMany v_taken v_found v_textLong v_at v_stopped v_all) sz [.ref a_this]) (g_QI D (g_tys cI cM) (va_A (ww_X8_rules cI cM a_this a_this_all a_this_past a_this_refused a_this_box a_this_row a_this_text a_this_numbers a_this_before v_states v_empty v_cut v_rowMany v_taken v_found v_textLong v_at v_stopped v_all) sz) (ww_X8_rules cI cM a_this a_this_all a_this_past a_this_refused a_this_box a_this_row a_this_text a_this_numbers a_this_before v_states v_empty v_cut v_rowMany v_taken v_found v_textLong v_at v_stopped v_all) r) 0 0 (va_A (ww_X8_rules cI cM a_this a_this_all a_this_past a_this_refused a_this_box a_this_row a_this_text a_this_numbers a_this_before v_states v_empty v_cut v_rowMany v_taken v_found v_textLong v_at v_stopped v_all) sz) := by
  refine g_met (cc := cX8_rules) (maxL := 1) (ret := (some .int)) (Qc := fun D A => g_QI D (g_tys cI cM) A (ww_X8_rules cI cM a_this a_this_all a_this_past a_this_refused a_this_box a_this_row a_this_text a_this_numbers a_this_before v_states v_empty v_cut v_rowMany v_taken v_found v_textLong v_at v_stopped v_all) r) (by decide) rfl ?_
  intro p e s m below meth c A C0 hA hK hP hD
  have hl := lv_entry ([.ref a_this]) (n := 1) (Nat.le_of_ble_eq_true rfl)
  rw [lg_entry_eq]
  generalize (lg_sl ([.ref a_this]) ++ List.replicate (1 - (lg_sl ([.ref a_this])).length) Slot.unset).toArray = ls at hl ⊢
  have hl : lv_has ls 1 [(0, .ref a_this)] := hl
  exact w_X8_rules_B0 C0 hA hK s.heap [] ls hf hP hD va_S.rf (lv_sub hl [0] rfl)
/-! FloatBoxesModel.lowAt(I)I -/
abbrev rm_X8_lowAt : Room := { frames := 0, cells := 0, slots := 0, locals := 0 }
abbrev ww_X8_lowAt (cI cM : ClassId) (a_this a_this_all a_this_past a_this_refused a_this_box a_this_row a_this_text a_this_numbers a_this_before : Nat) (v_states : Int32) (v_empty : Int32) (v_cut : Int32) (v_rowMany : Int32) (v_taken : Int32) (v_found : Int32) (v_textLong : Int32) (v_at : Int32) (v_stopped : Int32) (v_all : Nat → Int32) : va_W := [(a_this, .inr (6, [.ref a_this_all, .ref a_this_past, .int v_states, .ref a_this_refused, .ref a_this_box, .int v_empty, .int v_cut, .ref a_this_row, .int v_rowMany, .int v_taken, .int v_found, .ref a_this_text, .int v_textLong, .int v_at, .ref a_this_numbers, .int v_stopped, .ref a_this_before])), (a_this_all, .inl (cI, 38, .inl v_all))]
def f_X8_lowAt (v_all : Nat → Int32) (x1 : Int32) : Option (Int32) :=
  o_in (1 + (2 * x1)) 38 (
  some (v_all (1 + (2 * x1)).toNatClampNeg))
set_option maxHeartbeats 4000000 in
set_option maxRecDepth 100000 in
theorem w_X8_lowAt_B0 {p : Program} {l : Launch} {e : Env} {s : State} {m : MethodId} {args : Array Value} {below : List Frame} {meth : Method} {c : Code} {D : va_G} {cI cM : ClassId} {A : Nat → Prop} {a_this a_this_all a_this_past a_this_refused a_this_box a_this_row a_this_text a_this_numbers a_this_before : Nat} {v_states : Int32} {v_empty : Int32} {v_cut : Int32} {v_rowMany : Int32} {v_taken : Int32} {v_found : Int32} {v_textLong : Int32} {v_at : Int32} {v_stopped : Int32} {v_all : Nat → Int32} {r : Int32} (C0 : g_cx cX8_lowAt (some .int) 2 RX8 wsX8_lowAt p s m args meth c) (hA : ∀ q, s.heap.size ≤ q → A q) (hK : va_K D vwCl (g_tys cI cM) s) : ∀ (x1 : Int32) (H : Heap) (locs : List Loc) (ls : Array Slot), f_X8_lowAt v_all x1 = some r → va_P D vwCl (ww_X8_lowAt cI cM a_this a_this_all a_this_past a_this_refused a_this_box a_this_row a_this_text a_this_numbers a_this_before v_states v_empty v_cut v_rowMany v_taken v_found v_textLong v_at v_stopped v_all) H → va_D A (ww_X8_lowAt cI cM a_this a_this_all a_this_past a_this_refused a_this_box a_this_row a_this_text a_this_numbers a_this_before v_states v_empty v_cut v_rowMany v_taken v_found v_textLong v_at v_stopped v_all) → va_S A s.heap H locs → lv_has ls 2 [(0, .ref a_this), (1, .int x1)] → W p l e rm_X8_lowAt s m args below meth c H locs 0 0 (MQ below (g_QI D (g_tys cI cM) A (ww_X8_lowAt cI cM a_this a_this_all a_this_past a_this_refused a_this_box a_this_row a_this_text a_this_numbers a_this_before v_states v_empty v_cut v_rowMany v_taken v_found v_textLong v_at v_stopped v_all) r) args s 0 0 A) (F0 m 0 ls []) := by
  obtain ⟨hx, hb, hr, hml, hown, hts, hlocks⟩ := id C0
  intro x1 H locs ls hf hP hD hS hl
  unfold f_X8_lowAt at hf
  refine lv_aload_n hx hb dX8_lowAt_0 rfl (lv_at hl 0 rfl) ?_
  refine va_get (D := D) (ci := 6) (v := .ref a_this_all) (C := RX8) (T := TX8) (N := 17) hx hb hts (fun _ h => (List.mem_cons_of_mem _ (List.mem_append_right _ h))) hown hK hP 0 rfl rfl 0 (by decide) (hts (.fieldLink RX8 7 "FloatBoxesModel" "all" "[I") (List.mem_cons_of_mem _ (List.mem_append_left _ (List.mem_of_getElem? (i := 0) rfl)))) (fun _ h9 => h9) rfl dX8_lowAt_1 ?_
  refine lv_iconst (v := 1) hx hb dX8_lowAt_4 (by decide) ?_
  refine lv_iconst (v := 2) hx hb dX8_lowAt_5 (by decide) ?_
  refine lv_iload_n hx hb dX8_lowAt_6 rfl (lv_at hl 1 rfl) ?_
  refine lv_imul hx hb dX8_lowAt_7 ?_
  refine lv_iadd hx hb dX8_lowAt_8 ?_
  obtain ⟨h9, hf⟩ := o_in_go hf
  refine va_iald hx hb hK hP 1 0 rfl rfl h9 dX8_lowAt_9 ?_
  have q0 := Option.some.inj hf
  subst q0
  exact g_iret hx hb hr hlocks hP hD hK hS dX8_lowAt_10
set_option maxHeartbeats 4000000 in
set_option maxRecDepth 100000 in
theorem c_X8_lowAt (l : Launch) (D : va_G) (cI cM : ClassId) (a_this a_this_all a_this_past a_this_refused a_this_box a_this_row a_this_text a_this_numbers a_this_before : Nat) (sz : Nat) (v_states : Int32) (v_empty : Int32) (v_cut : Int32) (v_rowMany : Int32) (v_taken : Int32) (v_found : Int32) (v_textLong : Int32) (v_at : Int32) (v_stopped : Int32) (v_all : Nat → Int32) {x1 : Int32} {r : Int32} (hf : f_X8_lowAt v_all x1 = some r) : Met l yX8_lowAt wsX8_lowAt rm_X8_lowAt (g_Pc D (g_tys cI cM) (ww_X8_lowAt cI cM a_this a_this_all a_this_past a_this_refused a_this_box a_this_row a_this_text a_this_numbers a_this_before v_states v_empty v_cut v_rowMany v_taken v_found v_textLong v_at v_stopped v_all) sz [.ref a_this, .int x1]) (g_QI D (g_tys cI cM) (va_A (ww_X8_lowAt cI cM a_this a_this_all a_this_past a_this_refused a_this_box a_this_row a_this_text a_this_numbers a_this_before v_states v_empty v_cut v_rowMany v_taken v_found v_textLong v_at v_stopped v_all) sz) (ww_X8_lowAt cI cM a_this a_this_all a_this_past a_this_refused a_this_box a_this_row a_this_text a_this_numbers a_this_before v_states v_empty v_cut v_rowMany v_taken v_found v_textLong v_at v_stopped v_all) r) 0 0 (va_A (ww_X8_lowAt cI cM a_this a_this_all a_this_past a_this_refused a_this_box a_this_row a_this_text a_this_numbers a_this_before v_states v_empty v_cut v_rowMany v_taken v_found v_textLong v_at v_stopped v_all) sz) := by
  refine g_met (cc := cX8_lowAt) (maxL := 2) (ret := (some .int)) (Qc := fun D A => g_QI D (g_tys cI cM) A (ww_X8_lowAt cI cM a_this a_this_all a_this_past a_this_refused a_this_box a_this_row a_this_text a_this_numbers a_this_before v_states v_empty v_cut v_rowMany v_taken v_found v_textLong v_at v_stopped v_all) r) (by decide) rfl ?_
  intro p e s m below meth c A C0 hA hK hP hD
  have hl := lv_entry ([.ref a_this, .int x1]) (n := 2) (Nat.le_of_ble_eq_true rfl)
  rw [lg_entry_eq]
  generalize (lg_sl ([.ref a_this, .int x1]) ++ List.replicate (2 - (lg_sl ([.ref a_this, .int x1])).length) Slot.unset).toArray = ls at hl ⊢
  have hl : lv_has ls 2 [(0, .ref a_this), (1, .int x1)] := hl
  exact w_X8_lowAt_B0 C0 hA hK x1 s.heap [] ls hf hP hD va_S.rf (lv_sub hl [0, 1] rfl)
/-! FloatBoxesModel.highAt(I)I -/
abbrev rm_X8_highAt : Room := { frames := 0, cells := 0, slots := 0, locals := 0 }
abbrev ww_X8_highAt (cI cM : ClassId) (a_this a_this_all a_this_past a_this_refused a_this_box a_this_row a_this_text a_this_numbers a_this_before : Nat) (v_states : Int32) (v_empty : Int32) (v_cut : Int32) (v_rowMany : Int32) (v_taken : Int32) (v_found : Int32) (v_textLong : Int32) (v_at : Int32) (v_stopped : Int32) (v_all : Nat → Int32) : va_W := [(a_this, .inr (6, [.ref a_this_all, .ref a_this_past, .int v_states, .ref a_this_refused, .ref a_this_box, .int v_empty, .int v_cut, .ref a_this_row, .int v_rowMany, .int v_taken, .int v_found, .ref a_this_text, .int v_textLong, .int v_at, .ref a_this_numbers, .int v_stopped, .ref a_this_before])), (a_this_all, .inl (cI, 38, .inl v_all))]
def f_X8_highAt (v_all : Nat → Int32) (x1 : Int32) : Option (Int32) :=
  o_in (2 + (2 * x1)) 38 (
  some (v_all (2 + (2 * x1)).toNatClampNeg))
set_option maxHeartbeats 4000000 in
set_option maxRecDepth 100000 in
theorem w_X8_highAt_B0 {p : Program} {l : Launch} {e : Env} {s : State} {m : MethodId} {args : Array Value} {below : List Frame} {meth : Method} {c : Code} {D : va_G} {cI cM : ClassId} {A : Nat → Prop} {a_this a_this_all a_this_past a_this_refused a_this_box a_this_row a_this_text a_this_numbers a_this_before : Nat} {v_states : Int32} {v_empty : Int32} {v_cut : Int32} {v_rowMany : Int32} {v_taken : Int32} {v_found : Int32} {v_textLong : Int32} {v_at : Int32} {v_stopped : Int32} {v_all : Nat → Int32} {r : Int32} (C0 : g_cx cX8_highAt (some .int) 2 RX8 wsX8_highAt p s m args meth c) (hA : ∀ q, s.heap.size ≤ q → A q) (hK : va_K D vwCl (g_tys cI cM) s) : ∀ (x1 : Int32) (H : Heap) (locs : List Loc) (ls : Array Slot), f_X8_highAt v_all x1 = some r → va_P D vwCl (ww_X8_highAt cI cM a_this a_this_all a_this_past a_this_refused a_this_box a_this_row a_this_text a_this_numbers a_this_before v_states v_empty v_cut v_rowMany v_taken v_found v_textLong v_at v_stopped v_all) H → va_D A (ww_X8_highAt cI cM a_this a_this_all a_this_past a_this_refused a_this_box a_this_row a_this_text a_this_numbers a_this_before v_states v_empty v_cut v_rowMany v_taken v_found v_textLong v_at v_stopped v_all) → va_S A s.heap H locs → lv_has ls 2 [(0, .ref a_this), (1, .int x1)] → W p l e rm_X8_highAt s m args below meth c H locs 0 0 (MQ below (g_QI D (g_tys cI cM) A (ww_X8_highAt cI cM a_this a_this_all a_this_past a_this_refused a_this_box a_this_row a_this_text a_this_numbers a_this_before v_states v_empty v_cut v_rowMany v_taken v_found v_textLong v_at v_stopped v_all) r) args s 0 0 A) (F0 m 0 ls []) := by
  obtain ⟨hx, hb, hr, hml, hown, hts, hlocks⟩ := id C0
  intro x1 H locs ls hf hP hD hS hl
  unfold f_X8_highAt at hf
  refine lv_aload_n hx hb dX8_highAt_0 rfl (lv_at hl 0 rfl) ?_
  refine va_get (D := D) (ci := 6) (v := .ref a_this_all) (C := RX8) (T := TX8) (N := 17) hx hb hts (fun _ h => (List.mem_cons_of_mem _ (List.mem_append_right _ h))) hown hK hP 0 rfl rfl 0 (by decide) (hts (.fieldLink RX8 7 "FloatBoxesModel" "all" "[I") (List.mem_cons_of_mem _ (List.mem_append_left _ (List.mem_of_getElem? (i := 0) rfl)))) (fun _ h9 => h9) rfl dX8_highAt_1 ?_
  refine lv_iconst (v := 2) hx hb dX8_highAt_4 (by decide) ?_
  refine lv_iconst (v := 2) hx hb dX8_highAt_5 (by decide) ?_
  refine lv_iload_n hx hb dX8_highAt_6 rfl (lv_at hl 1 rfl) ?_
  refine lv_imul hx hb dX8_highAt_7 ?_
  refine lv_iadd hx hb dX8_highAt_8 ?_
  obtain ⟨h9, hf⟩ := o_in_go hf
  refine va_iald hx hb hK hP 1 0 rfl rfl h9 dX8_highAt_9 ?_
  have q0 := Option.some.inj hf
  subst q0
  exact g_iret hx hb hr hlocks hP hD hK hS dX8_highAt_10
set_option maxHeartbeats 4000000 in
set_option maxRecDepth 100000 in
theorem c_X8_highAt (l : Launch) (D : va_G) (cI cM : ClassId) (a_this a_this_all a_this_past a_this_refused a_this_box a_this_row a_this_text a_this_numbers a_this_before : Nat) (sz : Nat) (v_states : Int32) (v_empty : Int32) (v_cut : Int32) (v_rowMany : Int32) (v_taken : Int32) (v_found : Int32) (v_textLong : Int32) (v_at : Int32) (v_stopped : Int32) (v_all : Nat → Int32) {x1 : Int32} {r : Int32} (hf : f_X8_highAt v_all x1 = some r) : Met l yX8_highAt wsX8_highAt rm_X8_highAt (g_Pc D (g_tys cI cM) (ww_X8_highAt cI cM a_this a_this_all a_this_past a_this_refused a_this_box a_this_row a_this_text a_this_numbers a_this_before v_states v_empty v_cut v_rowMany v_taken v_found v_textLong v_at v_stopped v_all) sz [.ref a_this, .int x1]) (g_QI D (g_tys cI cM) (va_A (ww_X8_highAt cI cM a_this a_this_all a_this_past a_this_refused a_this_box a_this_row a_this_text a_this_numbers a_this_before v_states v_empty v_cut v_rowMany v_taken v_found v_textLong v_at v_stopped v_all) sz) (ww_X8_highAt cI cM a_this a_this_all a_this_past a_this_refused a_this_box a_this_row a_this_text a_this_numbers a_this_before v_states v_empty v_cut v_rowMany v_taken v_found v_textLong v_at v_stopped v_all) r) 0 0 (va_A (ww_X8_highAt cI cM a_this a_this_all a_this_past a_this_refused a_this_box a_this_row a_this_text a_this_numbers a_this_before v_states v_empty v_cut v_rowMany v_taken v_found v_textLong v_at v_stopped v_all) sz) := by
  refine g_met (cc := cX8_highAt) (maxL := 2) (ret := (some .int)) (Qc := fun D A => g_QI D (g_tys cI cM) A (ww_X8_highAt cI cM a_this a_this_all a_this_past a_this_refused a_this_box a_this_row a_this_text a_this_numbers a_this_before v_states v_empty v_cut v_rowMany v_taken v_found v_textLong v_at v_stopped v_all) r) (by decide) rfl ?_
  intro p e s m below meth c A C0 hA hK hP hD
  have hl := lv_entry ([.ref a_this, .int x1]) (n := 2) (Nat.le_of_ble_eq_true rfl)
  rw [lg_entry_eq]
  generalize (lg_sl ([.ref a_this, .int x1]) ++ List.replicate (2 - (lg_sl ([.ref a_this, .int x1])).length) Slot.unset).toArray = ls at hl ⊢
  have hl : lv_has ls 2 [(0, .ref a_this), (1, .int x1)] := hl
  exact w_X8_highAt_B0 C0 hA hK x1 s.heap [] ls hf hP hD va_S.rf (lv_sub hl [0, 1] rfl)
/-! FloatBoxesModel.ruleAt(II)I -/
abbrev rm_X8_ruleAt : Room := { frames := 0, cells := 0, slots := 0, locals := 0 }
abbrev ww_X8_ruleAt (cI cM : ClassId) (a_this a_this_all a_this_past a_this_refused a_this_box a_this_row a_this_text a_this_numbers a_this_before : Nat) (v_states : Int32) (v_empty : Int32) (v_cut : Int32) (v_rowMany : Int32) (v_taken : Int32) (v_found : Int32) (v_textLong : Int32) (v_at : Int32) (v_stopped : Int32) (v_all : Nat → Int32) : va_W := [(a_this, .inr (6, [.ref a_this_all, .ref a_this_past, .int v_states, .ref a_this_refused, .ref a_this_box, .int v_empty, .int v_cut, .ref a_this_row, .int v_rowMany, .int v_taken, .int v_found, .ref a_this_text, .int v_textLong, .int v_at, .ref a_this_numbers, .int v_stopped, .ref a_this_before])), (a_this_all, .inl (cI, 38, .inl v_all))]
def f_X8_ruleAt (v_all : Nat → Int32) (x1 : Int32) (x2 : Int32) : Option (Int32) :=
  o_in ((14 + (4 * x1)) + x2) 38 (
  some (v_all ((14 + (4 * x1)) + x2).toNatClampNeg))
set_option maxHeartbeats 4000000 in
set_option maxRecDepth 100000 in
theorem w_X8_ruleAt_B0 {p : Program} {l : Launch} {e : Env} {s : State} {m : MethodId} {args : Array Value} {below : List Frame} {meth : Method} {c : Code} {D : va_G} {cI cM : ClassId} {A : Nat → Prop} {a_this a_this_all a_this_past a_this_refused a_this_box a_this_row a_this_text a_this_numbers a_this_before : Nat} {v_states : Int32} {v_empty : Int32} {v_cut : Int32} {v_rowMany : Int32} {v_taken : Int32} {v_found : Int32} {v_textLong : Int32} {v_at : Int32} {v_stopped : Int32} {v_all : Nat → Int32} {r : Int32} (C0 : g_cx cX8_ruleAt (some .int) 3 RX8 wsX8_ruleAt p s m args meth c) (hA : ∀ q, s.heap.size ≤ q → A q) (hK : va_K D vwCl (g_tys cI cM) s) : ∀ (x1 : Int32) (x2 : Int32) (H : Heap) (locs : List Loc) (ls : Array Slot), f_X8_ruleAt v_all x1 x2 = some r → va_P D vwCl (ww_X8_ruleAt cI cM a_this a_this_all a_this_past a_this_refused a_this_box a_this_row a_this_text a_this_numbers a_this_before v_states v_empty v_cut v_rowMany v_taken v_found v_textLong v_at v_stopped v_all) H → va_D A (ww_X8_ruleAt cI cM a_this a_this_all a_this_past a_this_refused a_this_box a_this_row a_this_text a_this_numbers a_this_before v_states v_empty v_cut v_rowMany v_taken v_found v_textLong v_at v_stopped v_all) → va_S A s.heap H locs → lv_has ls 3 [(0, .ref a_this), (1, .int x1), (2, .int x2)] → W p l e rm_X8_ruleAt s m args below meth c H locs 0 0 (MQ below (g_QI D (g_tys cI cM) A (ww_X8_ruleAt cI cM a_this a_this_all a_this_past a_this_refused a_this_box a_this_row a_this_text a_this_numbers a_this_before v_states v_empty v_cut v_rowMany v_taken v_found v_textLong v_at v_stopped v_all) r) args s 0 0 A) (F0 m 0 ls []) := by
  obtain ⟨hx, hb, hr, hml, hown, hts, hlocks⟩ := id C0
  intro x1 x2 H locs ls hf hP hD hS hl
  unfold f_X8_ruleAt at hf
  refine lv_aload_n hx hb dX8_ruleAt_0 rfl (lv_at hl 0 rfl) ?_
  refine va_get (D := D) (ci := 6) (v := .ref a_this_all) (C := RX8) (T := TX8) (N := 17) hx hb hts (fun _ h => (List.mem_cons_of_mem _ (List.mem_append_right _ h))) hown hK hP 0 rfl rfl 0 (by decide) (hts (.fieldLink RX8 7 "FloatBoxesModel" "all" "[I") (List.mem_cons_of_mem _ (List.mem_append_left _ (List.mem_of_getElem? (i := 0) rfl)))) (fun _ h9 => h9) rfl dX8_ruleAt_1 ?_
  refine lv_bipush (v := 14) hx hb dX8_ruleAt_4 (by decide) ?_
  refine lv_iconst (v := 4) hx hb dX8_ruleAt_6 (by decide) ?_
  refine lv_iload_n hx hb dX8_ruleAt_7 rfl (lv_at hl 1 rfl) ?_
  refine lv_imul hx hb dX8_ruleAt_8 ?_
  refine lv_iadd hx hb dX8_ruleAt_9 ?_
  refine lv_iload_n hx hb dX8_ruleAt_10 rfl (lv_at hl 2 rfl) ?_
  refine lv_iadd hx hb dX8_ruleAt_11 ?_
  obtain ⟨h12, hf⟩ := o_in_go hf
  refine va_iald hx hb hK hP 1 0 rfl rfl h12 dX8_ruleAt_12 ?_
  have q0 := Option.some.inj hf
  subst q0
  exact g_iret hx hb hr hlocks hP hD hK hS dX8_ruleAt_13
set_option maxHeartbeats 4000000 in
set_option maxRecDepth 100000 in
theorem c_X8_ruleAt (l : Launch) (D : va_G) (cI cM : ClassId) (a_this a_this_all a_this_past a_this_refused a_this_box a_this_row a_this_text a_this_numbers a_this_before : Nat) (sz : Nat) (v_states : Int32) (v_empty : Int32) (v_cut : Int32) (v_rowMany : Int32) (v_taken : Int32) (v_found : Int32) (v_textLong : Int32) (v_at : Int32) (v_stopped : Int32) (v_all : Nat → Int32) {x1 : Int32} {x2 : Int32} {r : Int32} (hf : f_X8_ruleAt v_all x1 x2 = some r) : Met l yX8_ruleAt wsX8_ruleAt rm_X8_ruleAt (g_Pc D (g_tys cI cM) (ww_X8_ruleAt cI cM a_this a_this_all a_this_past a_this_refused a_this_box a_this_row a_this_text a_this_numbers a_this_before v_states v_empty v_cut v_rowMany v_taken v_found v_textLong v_at v_stopped v_all) sz [.ref a_this, .int x1, .int x2]) (g_QI D (g_tys cI cM) (va_A (ww_X8_ruleAt cI cM a_this a_this_all a_this_past a_this_refused a_this_box a_this_row a_this_text a_this_numbers a_this_before v_states v_empty v_cut v_rowMany v_taken v_found v_textLong v_at v_stopped v_all) sz) (ww_X8_ruleAt cI cM a_this a_this_all a_this_past a_this_refused a_this_box a_this_row a_this_text a_this_numbers a_this_before v_states v_empty v_cut v_rowMany v_taken v_found v_textLong v_at v_stopped v_all) r) 0 0 (va_A (ww_X8_ruleAt cI cM a_this a_this_all a_this_past a_this_refused a_this_box a_this_row a_this_text a_this_numbers a_this_before v_states v_empty v_cut v_rowMany v_taken v_found v_textLong v_at v_stopped v_all) sz) := by
  refine g_met (cc := cX8_ruleAt) (maxL := 3) (ret := (some .int)) (Qc := fun D A => g_QI D (g_tys cI cM) A (ww_X8_ruleAt cI cM a_this a_this_all a_this_past a_this_refused a_this_box a_this_row a_this_text a_this_numbers a_this_before v_states v_empty v_cut v_rowMany v_taken v_found v_textLong v_at v_stopped v_all) r) (by decide) rfl ?_
  intro p e s m below meth c A C0 hA hK hP hD
  have hl := lv_entry ([.ref a_this, .int x1, .int x2]) (n := 3) (Nat.le_of_ble_eq_true rfl)
  rw [lg_entry_eq]
  generalize (lg_sl ([.ref a_this, .int x1, .int x2]) ++ List.replicate (3 - (lg_sl ([.ref a_this, .int x1, .int x2])).length) Slot.unset).toArray = ls at hl ⊢
  have hl : lv_has ls 3 [(0, .ref a_this), (1, .int x1), (2, .int x2)] := hl
  exact w_X8_ruleAt_B0 C0 hA hK x1 x2 s.heap [] ls hf hP hD va_S.rf (lv_sub hl [0, 1, 2] rfl)
/-! FloatBoxesModel.isUnknown(I)Z -/
abbrev rm_X8_isUnknown : Room := { frames := 1, cells := 0, slots := 0, locals := 25 }
abbrev ww_X8_isUnknown (cI cM : ClassId) (a_this a_this_all a_this_past a_this_refused a_this_box a_this_row a_this_text a_this_numbers a_this_before : Nat) (v_states : Int32) (v_empty : Int32) (v_cut : Int32) (v_rowMany : Int32) (v_taken : Int32) (v_found : Int32) (v_textLong : Int32) (v_at : Int32) (v_stopped : Int32) (v_all : Nat → Int32) : va_W := [(a_this, .inr (6, [.ref a_this_all, .ref a_this_past, .int v_states, .ref a_this_refused, .ref a_this_box, .int v_empty, .int v_cut, .ref a_this_row, .int v_rowMany, .int v_taken, .int v_found, .ref a_this_text, .int v_textLong, .int v_at, .ref a_this_numbers, .int v_stopped, .ref a_this_before])), (a_this_all, .inl (cI, 38, .inl v_all))]
def f_X8_isUnknown (v_all : Nat → Int32) (x1 : Int32) : Option (Int32) :=
  o_b1 (f_X8_unknowns v_all) (fun (r4 : Int32) =>
  o_b1 (f_X8_in x1.toInt64 0 ((r4 - 1).toInt64)) (fun (r10 : Int32) =>
  o_ck (o_zb r10) (some r10)))
set_option maxHeartbeats 4000000 in
set_option maxRecDepth 100000 in
theorem w_X8_isUnknown_B0 {p : Program} {l : Launch} {e : Env} {s : State} {m : MethodId} {args : Array Value} {below : List Frame} {meth : Method} {c : Code} {D : va_G} {cI cM : ClassId} {A : Nat → Prop} {a_this a_this_all a_this_past a_this_refused a_this_box a_this_row a_this_text a_this_numbers a_this_before : Nat} {v_states : Int32} {v_empty : Int32} {v_cut : Int32} {v_rowMany : Int32} {v_taken : Int32} {v_found : Int32} {v_textLong : Int32} {v_at : Int32} {v_stopped : Int32} {v_all : Nat → Int32} {r : Int32} (C0 : g_cx cX8_isUnknown (some .boolean) 2 RX8 wsX8_isUnknown p s m args meth c) (hA : ∀ q, s.heap.size ≤ q → A q) (hK : va_K D vwCl (g_tys cI cM) s) : ∀ (x1 : Int32) (H : Heap) (locs : List Loc) (ls : Array Slot), f_X8_isUnknown v_all x1 = some r → va_P D vwCl (ww_X8_isUnknown cI cM a_this a_this_all a_this_past a_this_refused a_this_box a_this_row a_this_text a_this_numbers a_this_before v_states v_empty v_cut v_rowMany v_taken v_found v_textLong v_at v_stopped v_all) H → va_D A (ww_X8_isUnknown cI cM a_this a_this_all a_this_past a_this_refused a_this_box a_this_row a_this_text a_this_numbers a_this_before v_states v_empty v_cut v_rowMany v_taken v_found v_textLong v_at v_stopped v_all) → va_S A s.heap H locs → lv_has ls 2 [(0, .ref a_this), (1, .int x1)] → W p l e rm_X8_isUnknown s m args below meth c H locs 0 0 (MQ below (g_QI D (g_tys cI cM) A (ww_X8_isUnknown cI cM a_this a_this_all a_this_past a_this_refused a_this_box a_this_row a_this_text a_this_numbers a_this_before v_states v_empty v_cut v_rowMany v_taken v_found v_textLong v_at v_stopped v_all) r) args s 0 0 A) (F0 m 0 ls []) := by
  obtain ⟨hx, hb, hr, hml, hown, hts, hlocks⟩ := id C0
  intro x1 H locs ls hf hP hD hS hl
  unfold f_X8_isUnknown at hf
  refine lv_iload_n hx hb dX8_isUnknown_0 rfl (lv_at hl 1 rfl) ?_
  refine lv_i2l hx hb dX8_isUnknown_1 rfl ?_
  refine lv_lconst (v := 0) hx hb dX8_isUnknown_2 (by decide) ?_
  refine lv_aload_n hx hb dX8_isUnknown_3 rfl (lv_at hl 0 rfl) ?_
  obtain ⟨r4, hg4, hf⟩ := o_b1_go hf
  refine g_callVi (wn := (ww_X8_isUnknown cI cM a_this a_this_all a_this_past a_this_refused a_this_box a_this_row a_this_text a_this_numbers a_this_before v_states v_empty v_cut v_rowMany v_taken v_found v_textLong v_at v_stopped v_all)) (rest := [.long 0, .long x1.toInt64]) ⟨hx, hb, hml, hown, hts⟩ (c_X8_unknowns l D cI cM a_this a_this_all a_this_past a_this_refused a_this_box a_this_row a_this_text a_this_numbers a_this_before H.size v_states v_empty v_cut v_rowMany v_taken v_found v_textLong v_at v_stopped v_all hg4) (cwV 0 hts gX8_isUnknown_X8_unknowns rfl rfl rfl (by decide +kernel) ⟨Nat.le_of_ble_eq_true rfl, Nat.le_of_ble_eq_true rfl⟩) hK hP hD hS hA [0, 1] [] [0, 1] rfl rfl rfl rfl rfl rfl (by decide) rfl rfl rfl hl.1 rfl (Nat.le_of_ble_eq_true rfl) dX8_isUnknown_4 (fun H locs hP hD hS => ?_)
  refine lv_iconst (v := 1) hx hb dX8_isUnknown_7 (by decide) ?_
  refine lv_isub hx hb dX8_isUnknown_8 ?_
  refine lv_i2l hx hb dX8_isUnknown_9 rfl ?_
  obtain ⟨r10, hg10, hf⟩ := o_b1_go hf
  refine g_callSi (rest := []) ⟨hx, hb, hml, hown, hts⟩ (c_X8_in l hg10) (va_cwS 3 hts gX8_isUnknown_X8_in rfl rfl rfl (by decide +kernel) ⟨Nat.le_of_ble_eq_true rfl, Nat.le_of_ble_eq_true rfl⟩) rfl hl.1 rfl (Nat.le_of_ble_eq_true rfl) dX8_isUnknown_10 ?_
  obtain ⟨hz13, hf⟩ := o_ck_go hf
  have q0 := Option.some.inj hf
  subst q0
  exact g_zret hx hb hr hlocks hz13 hP hD hK hS dX8_isUnknown_13
set_option maxHeartbeats 4000000 in
set_option maxRecDepth 100000 in
theorem c_X8_isUnknown (l : Launch) (D : va_G) (cI cM : ClassId) (a_this a_this_all a_this_past a_this_refused a_this_box a_this_row a_this_text a_this_numbers a_this_before : Nat) (sz : Nat) (v_states : Int32) (v_empty : Int32) (v_cut : Int32) (v_rowMany : Int32) (v_taken : Int32) (v_found : Int32) (v_textLong : Int32) (v_at : Int32) (v_stopped : Int32) (v_all : Nat → Int32) {x1 : Int32} {r : Int32} (hf : f_X8_isUnknown v_all x1 = some r) : Met l yX8_isUnknown wsX8_isUnknown rm_X8_isUnknown (g_Pc D (g_tys cI cM) (ww_X8_isUnknown cI cM a_this a_this_all a_this_past a_this_refused a_this_box a_this_row a_this_text a_this_numbers a_this_before v_states v_empty v_cut v_rowMany v_taken v_found v_textLong v_at v_stopped v_all) sz [.ref a_this, .int x1]) (g_QI D (g_tys cI cM) (va_A (ww_X8_isUnknown cI cM a_this a_this_all a_this_past a_this_refused a_this_box a_this_row a_this_text a_this_numbers a_this_before v_states v_empty v_cut v_rowMany v_taken v_found v_textLong v_at v_stopped v_all) sz) (ww_X8_isUnknown cI cM a_this a_this_all a_this_past a_this_refused a_this_box a_this_row a_this_text a_this_numbers a_this_before v_states v_empty v_cut v_rowMany v_taken v_found v_textLong v_at v_stopped v_all) r) 0 0 (va_A (ww_X8_isUnknown cI cM a_this a_this_all a_this_past a_this_refused a_this_box a_this_row a_this_text a_this_numbers a_this_before v_states v_empty v_cut v_rowMany v_taken v_found v_textLong v_at v_stopped v_all) sz) := by
  refine g_met (cc := cX8_isUnknown) (maxL := 2) (ret := (some .boolean)) (Qc := fun D A => g_QI D (g_tys cI cM) A (ww_X8_isUnknown cI cM a_this a_this_all a_this_past a_this_refused a_this_box a_this_row a_this_text a_this_numbers a_this_before v_states v_empty v_cut v_rowMany v_taken v_found v_textLong v_at v_stopped v_all) r) (by decide) rfl ?_
  intro p e s m below meth c A C0 hA hK hP hD
  have hl := lv_entry ([.ref a_this, .int x1]) (n := 2) (Nat.le_of_ble_eq_true rfl)
  rw [lg_entry_eq]
  generalize (lg_sl ([.ref a_this, .int x1]) ++ List.replicate (2 - (lg_sl ([.ref a_this, .int x1])).length) Slot.unset).toArray = ls at hl ⊢
  have hl : lv_has ls 2 [(0, .ref a_this), (1, .int x1)] := hl
  exact w_X8_isUnknown_B0 C0 hA hK x1 s.heap [] ls hf hP hD va_S.rf (lv_sub hl [0, 1] rfl)
/-! FloatBoxesModel.isRule(I)Z -/
abbrev rm_X8_isRule : Room := { frames := 1, cells := 0, slots := 0, locals := 25 }
abbrev ww_X8_isRule (cI cM : ClassId) (a_this a_this_all a_this_past a_this_refused a_this_box a_this_row a_this_text a_this_numbers a_this_before : Nat) (v_states : Int32) (v_empty : Int32) (v_cut : Int32) (v_rowMany : Int32) (v_taken : Int32) (v_found : Int32) (v_textLong : Int32) (v_at : Int32) (v_stopped : Int32) (v_all : Nat → Int32) : va_W := [(a_this, .inr (6, [.ref a_this_all, .ref a_this_past, .int v_states, .ref a_this_refused, .ref a_this_box, .int v_empty, .int v_cut, .ref a_this_row, .int v_rowMany, .int v_taken, .int v_found, .ref a_this_text, .int v_textLong, .int v_at, .ref a_this_numbers, .int v_stopped, .ref a_this_before])), (a_this_all, .inl (cI, 38, .inl v_all))]
def f_X8_isRule (v_all : Nat → Int32) (x1 : Int32) : Option (Int32) :=
  o_b1 (f_X8_rules v_all) (fun (r4 : Int32) =>
  o_b1 (f_X8_in x1.toInt64 0 ((r4 - 1).toInt64)) (fun (r10 : Int32) =>
  o_ck (o_zb r10) (some r10)))
set_option maxHeartbeats 4000000 in
set_option maxRecDepth 100000 in
theorem w_X8_isRule_B0 {p : Program} {l : Launch} {e : Env} {s : State} {m : MethodId} {args : Array Value} {below : List Frame} {meth : Method} {c : Code} {D : va_G} {cI cM : ClassId} {A : Nat → Prop} {a_this a_this_all a_this_past a_this_refused a_this_box a_this_row a_this_text a_this_numbers a_this_before : Nat} {v_states : Int32} {v_empty : Int32} {v_cut : Int32} {v_rowMany : Int32} {v_taken : Int32} {v_found : Int32} {v_textLong : Int32} {v_at : Int32} {v_stopped : Int32} {v_all : Nat → Int32} {r : Int32} (C0 : g_cx cX8_isRule (some .boolean) 2 RX8 wsX8_isRule p s m args meth c) (hA : ∀ q, s.heap.size ≤ q → A q) (hK : va_K D vwCl (g_tys cI cM) s) : ∀ (x1 : Int32) (H : Heap) (locs : List Loc) (ls : Array Slot), f_X8_isRule v_all x1 = some r → va_P D vwCl (ww_X8_isRule cI cM a_this a_this_all a_this_past a_this_refused a_this_box a_this_row a_this_text a_this_numbers a_this_before v_states v_empty v_cut v_rowMany v_taken v_found v_textLong v_at v_stopped v_all) H → va_D A (ww_X8_isRule cI cM a_this a_this_all a_this_past a_this_refused a_this_box a_this_row a_this_text a_this_numbers a_this_before v_states v_empty v_cut v_rowMany v_taken v_found v_textLong v_at v_stopped v_all) → va_S A s.heap H locs → lv_has ls 2 [(0, .ref a_this), (1, .int x1)] → W p l e rm_X8_isRule s m args below meth c H locs 0 0 (MQ below (g_QI D (g_tys cI cM) A (ww_X8_isRule cI cM a_this a_this_all a_this_past a_this_refused a_this_box a_this_row a_this_text a_this_numbers a_this_before v_states v_empty v_cut v_rowMany v_taken v_found v_textLong v_at v_stopped v_all) r) args s 0 0 A) (F0 m 0 ls []) := by
  obtain ⟨hx, hb, hr, hml, hown, hts, hlocks⟩ := id C0
  intro x1 H locs ls hf hP hD hS hl
  unfold f_X8_isRule at hf
  refine lv_iload_n hx hb dX8_isRule_0 rfl (lv_at hl 1 rfl) ?_
  refine lv_i2l hx hb dX8_isRule_1 rfl ?_
  refine lv_lconst (v := 0) hx hb dX8_isRule_2 (by decide) ?_
  refine lv_aload_n hx hb dX8_isRule_3 rfl (lv_at hl 0 rfl) ?_
  obtain ⟨r4, hg4, hf⟩ := o_b1_go hf
  refine g_callVi (wn := (ww_X8_isRule cI cM a_this a_this_all a_this_past a_this_refused a_this_box a_this_row a_this_text a_this_numbers a_this_before v_states v_empty v_cut v_rowMany v_taken v_found v_textLong v_at v_stopped v_all)) (rest := [.long 0, .long x1.toInt64]) ⟨hx, hb, hml, hown, hts⟩ (c_X8_rules l D cI cM a_this a_this_all a_this_past a_this_refused a_this_box a_this_row a_this_text a_this_numbers a_this_before H.size v_states v_empty v_cut v_rowMany v_taken v_found v_textLong v_at v_stopped v_all hg4) (cwV 0 hts gX8_isRule_X8_rules rfl rfl rfl (by decide +kernel) ⟨Nat.le_of_ble_eq_true rfl, Nat.le_of_ble_eq_true rfl⟩) hK hP hD hS hA [0, 1] [] [0, 1] rfl rfl rfl rfl rfl rfl (by decide) rfl rfl rfl hl.1 rfl (Nat.le_of_ble_eq_true rfl) dX8_isRule_4 (fun H locs hP hD hS => ?_)
  refine lv_iconst (v := 1) hx hb dX8_isRule_7 (by decide) ?_
  refine lv_isub hx hb dX8_isRule_8 ?_
  refine lv_i2l hx hb dX8_isRule_9 rfl ?_
  obtain ⟨r10, hg10, hf⟩ := o_b1_go hf
  refine g_callSi (rest := []) ⟨hx, hb, hml, hown, hts⟩ (c_X8_in l hg10) (va_cwS 3 hts gX8_isRule_X8_in rfl rfl rfl (by decide +kernel) ⟨Nat.le_of_ble_eq_true rfl, Nat.le_of_ble_eq_true rfl⟩) rfl hl.1 rfl (Nat.le_of_ble_eq_true rfl) dX8_isRule_10 ?_
  obtain ⟨hz13, hf⟩ := o_ck_go hf
  have q0 := Option.some.inj hf
  subst q0
  exact g_zret hx hb hr hlocks hz13 hP hD hK hS dX8_isRule_13
set_option maxHeartbeats 4000000 in
set_option maxRecDepth 100000 in
theorem c_X8_isRule (l : Launch) (D : va_G) (cI cM : ClassId) (a_this a_this_all a_this_past a_this_refused a_this_box a_this_row a_this_text a_this_numbers a_this_before : Nat) (sz : Nat) (v_states : Int32) (v_empty : Int32) (v_cut : Int32) (v_rowMany : Int32) (v_taken : Int32) (v_found : Int32) (v_textLong : Int32) (v_at : Int32) (v_stopped : Int32) (v_all : Nat → Int32) {x1 : Int32} {r : Int32} (hf : f_X8_isRule v_all x1 = some r) : Met l yX8_isRule wsX8_isRule rm_X8_isRule (g_Pc D (g_tys cI cM) (ww_X8_isRule cI cM a_this a_this_all a_this_past a_this_refused a_this_box a_this_row a_this_text a_this_numbers a_this_before v_states v_empty v_cut v_rowMany v_taken v_found v_textLong v_at v_stopped v_all) sz [.ref a_this, .int x1]) (g_QI D (g_tys cI cM) (va_A (ww_X8_isRule cI cM a_this a_this_all a_this_past a_this_refused a_this_box a_this_row a_this_text a_this_numbers a_this_before v_states v_empty v_cut v_rowMany v_taken v_found v_textLong v_at v_stopped v_all) sz) (ww_X8_isRule cI cM a_this a_this_all a_this_past a_this_refused a_this_box a_this_row a_this_text a_this_numbers a_this_before v_states v_empty v_cut v_rowMany v_taken v_found v_textLong v_at v_stopped v_all) r) 0 0 (va_A (ww_X8_isRule cI cM a_this a_this_all a_this_past a_this_refused a_this_box a_this_row a_this_text a_this_numbers a_this_before v_states v_empty v_cut v_rowMany v_taken v_found v_textLong v_at v_stopped v_all) sz) := by
  refine g_met (cc := cX8_isRule) (maxL := 2) (ret := (some .boolean)) (Qc := fun D A => g_QI D (g_tys cI cM) A (ww_X8_isRule cI cM a_this a_this_all a_this_past a_this_refused a_this_box a_this_row a_this_text a_this_numbers a_this_before v_states v_empty v_cut v_rowMany v_taken v_found v_textLong v_at v_stopped v_all) r) (by decide) rfl ?_
  intro p e s m below meth c A C0 hA hK hP hD
  have hl := lv_entry ([.ref a_this, .int x1]) (n := 2) (Nat.le_of_ble_eq_true rfl)
  rw [lg_entry_eq]
  generalize (lg_sl ([.ref a_this, .int x1]) ++ List.replicate (2 - (lg_sl ([.ref a_this, .int x1])).length) Slot.unset).toArray = ls at hl ⊢
  have hl : lv_has ls 2 [(0, .ref a_this), (1, .int x1)] := hl
  exact w_X8_isRule_B0 C0 hA hK x1 s.heap [] ls hf hP hD va_S.rf (lv_sub hl [0, 1] rfl)
/-! FloatBoxesModel.number(I)F -/
abbrev rm_X8_number : Room := { frames := 1, cells := 0, slots := 0, locals := 23 }
def f_X8_number_B14  (z0 : Int32) : Option (UInt32) :=
  o_ck (!vn_sni2f z0) (
  some z0.toUInt32)
set_option maxHeartbeats 4000000 in
set_option maxRecDepth 100000 in
theorem w_X8_number_B14 {p : Program} {l : Launch} {e : Env} {s : State} {m : MethodId} {args : Array Value} {below : List Frame} {meth : Method} {c : Code} {r : UInt32} (C0 : g_cx cX8_number (some .float) 1 RX8 wsX8_number p s m args meth c) : ∀ (z0 : Int32) (ls : Array Slot), f_X8_number_B14 z0 = some r → lv_has ls 1 [] → W p l e rm_X8_number s m args below meth c s.heap [] 0 0 (MQ below (g_SF r) args s 0 0 (fun _ => False)) (F0 m 14 ls [.int z0]) := by
  obtain ⟨hx, hb, hr, hml, hown, hts, hlocks⟩ := id C0
  intro z0 ls hf hl
  unfold f_X8_number_B14 at hf
  obtain ⟨h14, hf⟩ := o_ck_go hf
  refine vn_i2f hx hb (by rw [hml]; exact hl.1.symm) hown (hts (.methodLink RX8 55 ⟨"java/lang/Float", "intBitsToFloat", "(I)F"⟩) (List.mem_cons_of_mem _ (List.mem_of_getElem? (i := 1) rfl))) (hts (.native ⟨"java/lang/Float", "intBitsToFloat", "(I)F"⟩) (List.mem_cons_of_mem _ (List.mem_of_getElem? (i := 2) rfl))) (hts (.static ⟨"java/lang/Float", "intBitsToFloat", "(I)F"⟩) (List.mem_cons_of_mem _ (List.mem_of_getElem? (i := 3) rfl))) (hts (.initialized "java/lang/Float") (List.mem_cons_of_mem _ (List.mem_of_getElem? (i := 4) rfl))) (by simpa using h14) (Nat.le_of_ble_eq_true rfl) (Nat.le_of_ble_eq_true rfl) dX8_number_14 ?_
  have q0 := Option.some.inj hf
  subst q0
  exact g_sfret hx hb hr hlocks dX8_number_17
def f_X8_number  (x0 : Int32) : Option (UInt32) :=
  if x0 < 0 then
    f_X8_number_B14 (((-2147483648)) ||| (((-1)) - x0))
  else
    f_X8_number_B14 x0
set_option maxHeartbeats 4000000 in
set_option maxRecDepth 100000 in
theorem w_X8_number_B0 {p : Program} {l : Launch} {e : Env} {s : State} {m : MethodId} {args : Array Value} {below : List Frame} {meth : Method} {c : Code} {r : UInt32} (C0 : g_cx cX8_number (some .float) 1 RX8 wsX8_number p s m args meth c) : ∀ (x0 : Int32) (ls : Array Slot), f_X8_number x0 = some r → lv_has ls 1 [(0, .int x0)] → W p l e rm_X8_number s m args below meth c s.heap [] 0 0 (MQ below (g_SF r) args s 0 0 (fun _ => False)) (F0 m 0 ls []) := by
  obtain ⟨hx, hb, hr, hml, hown, hts, hlocks⟩ := id C0
  intro x0 ls hf hl
  unfold f_X8_number at hf
  refine lv_iload_n hx hb dX8_number_0 rfl (lv_at hl 0 rfl) ?_
  refine lv_if_lt (tgt := 8) hx hb dX8_number_1 (by decide) (fun c1 => ?_) (fun c1 => ?_)
  · replace hf := o_t c1 hf
    refine lv_ldc (v := (-2147483648)) hx hb hown (hts (.constant RX8 54 (-2147483648)) (List.mem_cons_of_mem _ (List.mem_of_getElem? (i := 0) rfl))) dX8_number_8 ?_
    refine lv_iconst (v := (-1)) hx hb dX8_number_10 (by decide) ?_
    refine lv_iload_n hx hb dX8_number_11 rfl (lv_at hl 0 rfl) ?_
    refine lv_isub hx hb dX8_number_12 ?_
    refine lv_ior hx hb dX8_number_13 ?_
    exact w_X8_number_B14 C0 (((-2147483648)) ||| (((-1)) - x0)) ls hf (lv_sub hl [] rfl)
  · replace hf := o_f c1 hf
    refine lv_iload_n hx hb dX8_number_4 rfl (lv_at hl 0 rfl) ?_
    refine lv_goto (tgt := 14) hx hb dX8_number_5 (by decide) ?_
    exact w_X8_number_B14 C0 x0 ls hf (lv_sub hl [] rfl)
set_option maxHeartbeats 4000000 in
set_option maxRecDepth 100000 in
theorem c_X8_number (l : Launch) {x0 : Int32} {r : UInt32} (hf : f_X8_number x0 = some r) : Met l yX8_number wsX8_number rm_X8_number (g_PS [.int x0]) (g_SF r) 0 0 (fun _ => False) := by
  refine g_metS (cc := cX8_number) (maxL := 1) (ret := (some .float)) (by decide) rfl ?_
  intro p e s m below meth c C0
  have hl := lv_entry ([.int x0]) (n := 1) (Nat.le_of_ble_eq_true rfl)
  rw [lg_entry_eq]
  generalize (lg_sl ([.int x0]) ++ List.replicate (1 - (lg_sl ([.int x0])).length) Slot.unset).toArray = ls at hl ⊢
  have hl : lv_has ls 1 [(0, .int x0)] := hl
  exact w_X8_number_B0 C0 x0 ls hf (lv_sub hl [0] rfl)
/-! java/lang/Float.isNaN(F)Z -/
abbrev rm_Jxf58ca_isNaN_12338 : Room := { frames := 0, cells := 0, slots := 0, locals := 0 }
def f_Jxf58ca_isNaN_12338  (x0 : UInt32) : Option (Int32) :=
  if (Op.cmpValue (FP.fcmp x0 x0) .l) = 0 then
    some 0
  else
    some 1
set_option maxHeartbeats 4000000 in
set_option maxRecDepth 100000 in
theorem w_Jxf58ca_isNaN_12338_B0 {p : Program} {l : Launch} {e : Env} {s : State} {m : MethodId} {args : Array Value} {below : List Frame} {meth : Method} {c : Code} {r : Int32} (C0 : g_cx cJxf58ca_isNaN_12338 (some .boolean) 1 RJxf58ca wsJxf58ca_isNaN_12338 p s m args meth c) : ∀ (x0 : UInt32) (ls : Array Slot), f_Jxf58ca_isNaN_12338 x0 = some r → lv_has ls 1 [(0, .float x0)] → W p l e rm_Jxf58ca_isNaN_12338 s m args below meth c s.heap [] 0 0 (MQ below (g_SI r) args s 0 0 (fun _ => False)) (F0 m 0 ls []) := by
  obtain ⟨hx, hb, hr, hml, hown, hts, hlocks⟩ := id C0
  intro x0 ls hf hl
  unfold f_Jxf58ca_isNaN_12338 at hf
  refine lv_fload_n hx hb dJxf58ca_isNaN_12338_0 rfl (lv_at hl 0 rfl) ?_
  refine lv_fload_n hx hb dJxf58ca_isNaN_12338_1 rfl (lv_at hl 0 rfl) ?_
  refine lv_fcmp hx hb dJxf58ca_isNaN_12338_2 ?_
  refine lv_if_eq (tgt := 10) hx hb dJxf58ca_isNaN_12338_3 (by decide) (fun c3 => ?_) (fun c3 => ?_)
  · replace hf := o_t c3 hf
    refine lv_iconst (v := 0) hx hb dJxf58ca_isNaN_12338_10 (by decide) ?_
    have q0 := Option.some.inj hf
    subst q0
    exact g_szret hx hb hr hlocks (by decide) dJxf58ca_isNaN_12338_11
  · replace hf := o_f c3 hf
    refine lv_iconst (v := 1) hx hb dJxf58ca_isNaN_12338_6 (by decide) ?_
    refine lv_goto (tgt := 11) hx hb dJxf58ca_isNaN_12338_7 (by decide) ?_
    have q0 := Option.some.inj hf
    subst q0
    exact g_szret hx hb hr hlocks (by decide) dJxf58ca_isNaN_12338_11
set_option maxHeartbeats 4000000 in
set_option maxRecDepth 100000 in
theorem c_Jxf58ca_isNaN_12338 (l : Launch) {x0 : UInt32} {r : Int32} (hf : f_Jxf58ca_isNaN_12338 x0 = some r) : Met l yJxf58ca_isNaN_12338 wsJxf58ca_isNaN_12338 rm_Jxf58ca_isNaN_12338 (g_PS [.float x0]) (g_SI r) 0 0 (fun _ => False) := by
  refine g_metSF (cc := cJxf58ca_isNaN_12338) (maxL := 1) (ret := (some .boolean)) (by decide +kernel) rfl ?_
  intro p e s m below meth c C0
  have hl := lv_entry ([.float x0]) (n := 1) (Nat.le_of_ble_eq_true rfl)
  rw [lg_entry_eq]
  generalize (lg_sl ([.float x0]) ++ List.replicate (1 - (lg_sl ([.float x0])).length) Slot.unset).toArray = ls at hl ⊢
  have hl : lv_has ls 1 [(0, .float x0)] := hl
  exact w_Jxf58ca_isNaN_12338_B0 C0 x0 ls hf (lv_sub hl [0] rfl)
/-! java/lang/Float.floatToIntBits(F)I -/
abbrev rm_Jxf58ca_floatToIntBits_5c35a : Room := { frames := 1, cells := 0, slots := 0, locals := 23 }
def f_Jxf58ca_floatToIntBits_5c35a  (x0 : UInt32) : Option (Int32) :=
  o_b1 (f_Jxf58ca_isNaN_12338 x0) (fun (r1 : Int32) =>
  if r1 = 0 then
    some x0.toInt32
  else
    some 2143289344)
set_option maxHeartbeats 4000000 in
set_option maxRecDepth 100000 in
theorem w_Jxf58ca_floatToIntBits_5c35a_B0 {p : Program} {l : Launch} {e : Env} {s : State} {m : MethodId} {args : Array Value} {below : List Frame} {meth : Method} {c : Code} {r : Int32} (C0 : g_cx cJxf58ca_floatToIntBits_5c35a (some .int) 1 RJxf58ca wsJxf58ca_floatToIntBits_5c35a p s m args meth c) : ∀ (x0 : UInt32) (ls : Array Slot), f_Jxf58ca_floatToIntBits_5c35a x0 = some r → lv_has ls 1 [(0, .float x0)] → W p l e rm_Jxf58ca_floatToIntBits_5c35a s m args below meth c s.heap [] 0 0 (MQ below (g_SI r) args s 0 0 (fun _ => False)) (F0 m 0 ls []) := by
  obtain ⟨hx, hb, hr, hml, hown, hts, hlocks⟩ := id C0
  intro x0 ls hf hl
  unfold f_Jxf58ca_floatToIntBits_5c35a at hf
  refine lv_fload_n hx hb dJxf58ca_floatToIntBits_5c35a_0 rfl (lv_at hl 0 rfl) ?_
  obtain ⟨r1, hg1, hf⟩ := o_b1_go hf
  refine g_callSi (rest := []) ⟨hx, hb, hml, hown, hts⟩ (c_Jxf58ca_isNaN_12338 l hg1) (va_cwS 1 hts gJxf58ca_floatToIntBits_5c35a_Jxf58ca_isNaN_12338 rfl rfl rfl (by decide +kernel) ⟨Nat.le_of_ble_eq_true rfl, Nat.le_of_ble_eq_true rfl⟩) rfl hl.1 rfl (Nat.le_of_ble_eq_true rfl) dJxf58ca_floatToIntBits_5c35a_1 ?_
  refine lv_if_ne (tgt := 12) hx hb dJxf58ca_floatToIntBits_5c35a_4 (by decide) (fun c4 => ?_) (fun c4 => ?_)
  · replace hf := o_f c4 hf
    refine lv_ldc (v := 2143289344) hx hb hown (hts (.constant RJxf58ca 77 (2143289344)) (List.mem_cons_of_mem _ (List.mem_of_getElem? (i := 4) rfl))) dJxf58ca_floatToIntBits_5c35a_12 ?_
    have q0 := Option.some.inj hf
    subst q0
    exact g_siret hx hb hr hlocks dJxf58ca_floatToIntBits_5c35a_14
  · replace hf := o_t c4 hf
    refine lv_fload_n hx hb dJxf58ca_floatToIntBits_5c35a_7 rfl (lv_at hl 0 rfl) ?_
    refine vn_f2i hx hb (by rw [hml]; exact hl.1.symm) hown (hts (.methodLink RJxf58ca 74 ⟨"java/lang/Float", "floatToRawIntBits", "(F)I"⟩) (List.mem_cons_of_mem _ (List.mem_of_getElem? (i := 0) rfl))) (hts (.native ⟨"java/lang/Float", "floatToRawIntBits", "(F)I"⟩) (List.mem_cons_of_mem _ (List.mem_of_getElem? (i := 1) rfl))) (hts (.static ⟨"java/lang/Float", "floatToRawIntBits", "(F)I"⟩) (List.mem_cons_of_mem _ (List.mem_of_getElem? (i := 2) rfl))) (hts (.initialized "java/lang/Float") (List.mem_cons_of_mem _ (List.mem_of_getElem? (i := 3) rfl))) (Nat.le_of_ble_eq_true rfl) (Nat.le_of_ble_eq_true rfl) dJxf58ca_floatToIntBits_5c35a_8 ?_
    have q0 := Option.some.inj hf
    subst q0
    exact g_siret hx hb hr hlocks dJxf58ca_floatToIntBits_5c35a_11
set_option maxHeartbeats 4000000 in
set_option maxRecDepth 100000 in
theorem c_Jxf58ca_floatToIntBits_5c35a (l : Launch) {x0 : UInt32} {r : Int32} (hf : f_Jxf58ca_floatToIntBits_5c35a x0 = some r) : Met l yJxf58ca_floatToIntBits_5c35a wsJxf58ca_floatToIntBits_5c35a rm_Jxf58ca_floatToIntBits_5c35a (g_PS [.float x0]) (g_SI r) 0 0 (fun _ => False) := by
  refine g_metSF (cc := cJxf58ca_floatToIntBits_5c35a) (maxL := 1) (ret := (some .int)) (by decide +kernel) rfl ?_
  intro p e s m below meth c C0
  have hl := lv_entry ([.float x0]) (n := 1) (Nat.le_of_ble_eq_true rfl)
  rw [lg_entry_eq]
  generalize (lg_sl ([.float x0]) ++ List.replicate (1 - (lg_sl ([.float x0])).length) Slot.unset).toArray = ls at hl ⊢
  have hl : lv_has ls 1 [(0, .float x0)] := hl
  exact w_Jxf58ca_floatToIntBits_5c35a_B0 C0 x0 ls hf (lv_sub hl [0] rfl)
/-! FloatBoxesModel.place(F)I -/
abbrev rm_X8_place : Room := { frames := 2, cells := 0, slots := 0, locals := 43 }
def f_X8_place  (x0 : UInt32) : Option (Int32) :=
  o_b1 (f_Jxf58ca_floatToIntBits_5c35a x0) (fun (r1 : Int32) =>
  if r1 < 0 then
    some (((-1)) - (r1 &&& 2147483647))
  else
    some r1)
set_option maxHeartbeats 4000000 in
set_option maxRecDepth 100000 in
theorem w_X8_place_B0 {p : Program} {l : Launch} {e : Env} {s : State} {m : MethodId} {args : Array Value} {below : List Frame} {meth : Method} {c : Code} {r : Int32} (C0 : g_cx cX8_place (some .int) 2 RX8 wsX8_place p s m args meth c) : ∀ (x0 : UInt32) (ls : Array Slot), f_X8_place x0 = some r → lv_has ls 2 [(0, .float x0)] → W p l e rm_X8_place s m args below meth c s.heap [] 0 0 (MQ below (g_SI r) args s 0 0 (fun _ => False)) (F0 m 0 ls []) := by
  obtain ⟨hx, hb, hr, hml, hown, hts, hlocks⟩ := id C0
  intro x0 ls hf hl
  unfold f_X8_place at hf
  refine lv_fload_n hx hb dX8_place_0 rfl (lv_at hl 0 rfl) ?_
  obtain ⟨r1, hg1, hf⟩ := o_b1_go hf
  refine g_callSi (rest := []) ⟨hx, hb, hml, hown, hts⟩ (c_Jxf58ca_floatToIntBits_5c35a l hg1) (va_cwS 1 hts gX8_place_Jxf58ca_floatToIntBits_5c35a rfl rfl rfl (by decide +kernel) ⟨Nat.le_of_ble_eq_true rfl, Nat.le_of_ble_eq_true rfl⟩) rfl hl.1 rfl (Nat.le_of_ble_eq_true rfl) dX8_place_1 ?_
  refine lv_istore_n (lv' := [(1, .int r1), (0, .float x0)]) hx hb dX8_place_4 rfl hl (by decide) rfl (fun ls hl => ?_)
  refine lv_iload_n hx hb dX8_place_5 rfl (lv_at hl 0 rfl) ?_
  refine lv_if_lt (tgt := 13) hx hb dX8_place_6 (by decide) (fun c6 => ?_) (fun c6 => ?_)
  · replace hf := o_t c6 hf
    refine lv_iconst (v := (-1)) hx hb dX8_place_13 (by decide) ?_
    refine lv_iload_n hx hb dX8_place_14 rfl (lv_at hl 0 rfl) ?_
    refine lv_ldc (v := 2147483647) hx hb hown (hts (.constant RX8 65 (2147483647)) (List.mem_cons_of_mem _ (List.mem_of_getElem? (i := 0) rfl))) dX8_place_15 ?_
    refine lv_iand hx hb dX8_place_17 ?_
    refine lv_isub hx hb dX8_place_18 ?_
    have q0 := Option.some.inj hf
    subst q0
    exact g_siret hx hb hr hlocks dX8_place_19
  · replace hf := o_f c6 hf
    refine lv_iload_n hx hb dX8_place_9 rfl (lv_at hl 0 rfl) ?_
    refine lv_goto (tgt := 19) hx hb dX8_place_10 (by decide) ?_
    have q0 := Option.some.inj hf
    subst q0
    exact g_siret hx hb hr hlocks dX8_place_19
set_option maxHeartbeats 4000000 in
set_option maxRecDepth 100000 in
theorem c_X8_place (l : Launch) {x0 : UInt32} {r : Int32} (hf : f_X8_place x0 = some r) : Met l yX8_place wsX8_place rm_X8_place (g_PS [.float x0]) (g_SI r) 0 0 (fun _ => False) := by
  refine g_metS (cc := cX8_place) (maxL := 2) (ret := (some .int)) (by decide) rfl ?_
  intro p e s m below meth c C0
  have hl := lv_entry ([.float x0]) (n := 2) (Nat.le_of_ble_eq_true rfl)
  rw [lg_entry_eq]
  generalize (lg_sl ([.float x0]) ++ List.replicate (2 - (lg_sl ([.float x0])).length) Slot.unset).toArray = ls at hl ⊢
  have hl : lv_has ls 2 [(0, .float x0)] := hl
  exact w_X8_place_B0 C0 x0 ls hf (lv_sub hl [0] rfl)
/-! FloatBoxesModel.sum(II)I -/
abbrev rm_X8_sum : Room := { frames := 3, cells := 0, slots := 0, locals := 64 }
def f_X8_sum  (x0 : Int32) (x1 : Int32) : Option (Int32) :=
  o_b1 (f_X8_number x0) (fun (r1 : UInt32) =>
  o_b1 (f_X8_number x1) (fun (r5 : UInt32) =>
  o_ck (decide ((FP.fadd r1 r5) &&& 0x7fffffff ≤ (0x7f800000 : UInt32))) (
  o_b1 (f_X8_place (FP.fadd r1 r5)) (fun (r9 : Int32) =>
  some r9))))
set_option maxHeartbeats 4000000 in
set_option maxRecDepth 100000 in
theorem w_X8_sum_B0 {p : Program} {l : Launch} {e : Env} {s : State} {m : MethodId} {args : Array Value} {below : List Frame} {meth : Method} {c : Code} {r : Int32} (C0 : g_cx cX8_sum (some .int) 2 RX8 wsX8_sum p s m args meth c) : ∀ (x0 : Int32) (x1 : Int32) (ls : Array Slot), f_X8_sum x0 x1 = some r → lv_has ls 2 [(0, .int x0), (1, .int x1)] → W p l e rm_X8_sum s m args below meth c s.heap [] 0 0 (MQ below (g_SI r) args s 0 0 (fun _ => False)) (F0 m 0 ls []) := by
  obtain ⟨hx, hb, hr, hml, hown, hts, hlocks⟩ := id C0
  intro x0 x1 ls hf hl
  unfold f_X8_sum at hf
  refine lv_iload_n hx hb dX8_sum_0 rfl (lv_at hl 0 rfl) ?_
  obtain ⟨r1, hg1, hf⟩ := o_b1_go hf
  refine g_callSf (rest := []) ⟨hx, hb, hml, hown, hts⟩ (c_X8_number l hg1) (va_cwS 1 hts gX8_sum_X8_number rfl rfl rfl (by decide +kernel) ⟨Nat.le_of_ble_eq_true rfl, Nat.le_of_ble_eq_true rfl⟩) rfl hl.1 rfl (Nat.le_of_ble_eq_true rfl) dX8_sum_1 ?_
  refine lv_iload_n hx hb dX8_sum_4 rfl (lv_at hl 1 rfl) ?_
  obtain ⟨r5, hg5, hf⟩ := o_b1_go hf
  refine g_callSf (rest := [.float r1]) ⟨hx, hb, hml, hown, hts⟩ (c_X8_number l hg5) (va_cwS 1 hts gX8_sum_X8_number rfl rfl rfl (by decide +kernel) ⟨Nat.le_of_ble_eq_true rfl, Nat.le_of_ble_eq_true rfl⟩) rfl hl.1 rfl (Nat.le_of_ble_eq_true rfl) dX8_sum_5 ?_
  obtain ⟨h8, hf⟩ := o_ck_go hf
  replace h8 := of_decide_eq_true h8
  refine lv_fadd hx hb dX8_sum_8 h8 ?_
  obtain ⟨r9, hg9, hf⟩ := o_b1_go hf
  refine g_callSi (rest := []) ⟨hx, hb, hml, hown, hts⟩ (c_X8_place l hg9) (va_cwS 1 hts gX8_sum_X8_place rfl rfl rfl (by decide +kernel) ⟨Nat.le_of_ble_eq_true rfl, Nat.le_of_ble_eq_true rfl⟩) rfl hl.1 rfl (Nat.le_of_ble_eq_true rfl) dX8_sum_9 ?_
  have q0 := Option.some.inj hf
  subst q0
  exact g_siret hx hb hr hlocks dX8_sum_12
set_option maxHeartbeats 4000000 in
set_option maxRecDepth 100000 in
theorem c_X8_sum (l : Launch) {x0 : Int32} {x1 : Int32} {r : Int32} (hf : f_X8_sum x0 x1 = some r) : Met l yX8_sum wsX8_sum rm_X8_sum (g_PS [.int x0, .int x1]) (g_SI r) 0 0 (fun _ => False) := by
  refine g_metS (cc := cX8_sum) (maxL := 2) (ret := (some .int)) (by decide) rfl ?_
  intro p e s m below meth c C0
  have hl := lv_entry ([.int x0, .int x1]) (n := 2) (Nat.le_of_ble_eq_true rfl)
  rw [lg_entry_eq]
  generalize (lg_sl ([.int x0, .int x1]) ++ List.replicate (2 - (lg_sl ([.int x0, .int x1])).length) Slot.unset).toArray = ls at hl ⊢
  have hl : lv_has ls 2 [(0, .int x0), (1, .int x1)] := hl
  exact w_X8_sum_B0 C0 x0 x1 ls hf (lv_sub hl [0, 1] rfl)
/-! FloatBoxesModel.product(II)I -/
abbrev rm_X8_product : Room := { frames := 3, cells := 0, slots := 0, locals := 64 }
def f_X8_product  (x0 : Int32) (x1 : Int32) : Option (Int32) :=
  o_b1 (f_X8_number x0) (fun (r1 : UInt32) =>
  o_b1 (f_X8_number x1) (fun (r5 : UInt32) =>
  o_ck (decide ((FP.fmul r1 r5) &&& 0x7fffffff ≤ (0x7f800000 : UInt32))) (
  o_b1 (f_X8_place (FP.fmul r1 r5)) (fun (r9 : Int32) =>
  some r9))))
set_option maxHeartbeats 4000000 in
set_option maxRecDepth 100000 in
theorem w_X8_product_B0 {p : Program} {l : Launch} {e : Env} {s : State} {m : MethodId} {args : Array Value} {below : List Frame} {meth : Method} {c : Code} {r : Int32} (C0 : g_cx cX8_product (some .int) 2 RX8 wsX8_product p s m args meth c) : ∀ (x0 : Int32) (x1 : Int32) (ls : Array Slot), f_X8_product x0 x1 = some r → lv_has ls 2 [(0, .int x0), (1, .int x1)] → W p l e rm_X8_product s m args below meth c s.heap [] 0 0 (MQ below (g_SI r) args s 0 0 (fun _ => False)) (F0 m 0 ls []) := by
  obtain ⟨hx, hb, hr, hml, hown, hts, hlocks⟩ := id C0
  intro x0 x1 ls hf hl
  unfold f_X8_product at hf
  refine lv_iload_n hx hb dX8_product_0 rfl (lv_at hl 0 rfl) ?_
  obtain ⟨r1, hg1, hf⟩ := o_b1_go hf
  refine g_callSf (rest := []) ⟨hx, hb, hml, hown, hts⟩ (c_X8_number l hg1) (va_cwS 1 hts gX8_product_X8_number rfl rfl rfl (by decide +kernel) ⟨Nat.le_of_ble_eq_true rfl, Nat.le_of_ble_eq_true rfl⟩) rfl hl.1 rfl (Nat.le_of_ble_eq_true rfl) dX8_product_1 ?_
  refine lv_iload_n hx hb dX8_product_4 rfl (lv_at hl 1 rfl) ?_
  obtain ⟨r5, hg5, hf⟩ := o_b1_go hf
  refine g_callSf (rest := [.float r1]) ⟨hx, hb, hml, hown, hts⟩ (c_X8_number l hg5) (va_cwS 1 hts gX8_product_X8_number rfl rfl rfl (by decide +kernel) ⟨Nat.le_of_ble_eq_true rfl, Nat.le_of_ble_eq_true rfl⟩) rfl hl.1 rfl (Nat.le_of_ble_eq_true rfl) dX8_product_5 ?_
  obtain ⟨h8, hf⟩ := o_ck_go hf
  replace h8 := of_decide_eq_true h8
  refine lv_fmul hx hb dX8_product_8 h8 ?_
  obtain ⟨r9, hg9, hf⟩ := o_b1_go hf
  refine g_callSi (rest := []) ⟨hx, hb, hml, hown, hts⟩ (c_X8_place l hg9) (va_cwS 1 hts gX8_product_X8_place rfl rfl rfl (by decide +kernel) ⟨Nat.le_of_ble_eq_true rfl, Nat.le_of_ble_eq_true rfl⟩) rfl hl.1 rfl (Nat.le_of_ble_eq_true rfl) dX8_product_9 ?_
  have q0 := Option.some.inj hf
  subst q0
  exact g_siret hx hb hr hlocks dX8_product_12
set_option maxHeartbeats 4000000 in
set_option maxRecDepth 100000 in
theorem c_X8_product (l : Launch) {x0 : Int32} {x1 : Int32} {r : Int32} (hf : f_X8_product x0 x1 = some r) : Met l yX8_product wsX8_product rm_X8_product (g_PS [.int x0, .int x1]) (g_SI r) 0 0 (fun _ => False) := by
  refine g_metS (cc := cX8_product) (maxL := 2) (ret := (some .int)) (by decide) rfl ?_
  intro p e s m below meth c C0
  have hl := lv_entry ([.int x0, .int x1]) (n := 2) (Nat.le_of_ble_eq_true rfl)
  rw [lg_entry_eq]
  generalize (lg_sl ([.int x0, .int x1]) ++ List.replicate (2 - (lg_sl ([.int x0, .int x1])).length) Slot.unset).toArray = ls at hl ⊢
  have hl : lv_has ls 2 [(0, .int x0), (1, .int x1)] := hl
  exact w_X8_product_B0 C0 x0 x1 ls hf (lv_sub hl [0, 1] rfl)
/-! FloatBoxesModel.holds(IIII)Z -/
abbrev rm_X8_holds : Room := { frames := 4, cells := 0, slots := 0, locals := 85 }
def f_X8_holds_B76  (x3 : Int32) (z0 : Int32) : Option (Int32) :=
  if z0 = x3 then
    some 1
  else
    some 0
set_option maxHeartbeats 4000000 in
set_option maxRecDepth 100000 in
theorem w_X8_holds_B76 {p : Program} {l : Launch} {e : Env} {s : State} {m : MethodId} {args : Array Value} {below : List Frame} {meth : Method} {c : Code} {r : Int32} (C0 : g_cx cX8_holds (some .boolean) 4 RX8 wsX8_holds p s m args meth c) : ∀ (x3 : Int32) (z0 : Int32) (ls : Array Slot), f_X8_holds_B76 x3 z0 = some r → lv_has ls 4 [(3, .int x3)] → W p l e rm_X8_holds s m args below meth c s.heap [] 0 0 (MQ below (g_SI r) args s 0 0 (fun _ => False)) (F0 m 76 ls [.int z0]) := by
  obtain ⟨hx, hb, hr, hml, hown, hts, hlocks⟩ := id C0
  intro x3 z0 ls hf hl
  unfold f_X8_holds_B76 at hf
  refine lv_iload_n hx hb dX8_holds_76 rfl (lv_at hl 0 rfl) ?_
  refine lv_icmp_ne (tgt := 84) hx hb dX8_holds_77 (by decide) (fun c77 => ?_) (fun c77 => ?_)
  · replace hf := o_f c77 hf
    refine lv_iconst (v := 0) hx hb dX8_holds_84 (by decide) ?_
    have q0 := Option.some.inj hf
    subst q0
    exact g_szret hx hb hr hlocks (by decide) dX8_holds_85
  · replace hf := o_t c77 hf
    refine lv_iconst (v := 1) hx hb dX8_holds_80 (by decide) ?_
    refine lv_goto (tgt := 85) hx hb dX8_holds_81 (by decide) ?_
    have q0 := Option.some.inj hf
    subst q0
    exact g_szret hx hb hr hlocks (by decide) dX8_holds_85
def f_X8_holds  (x0 : Int32) (x1 : Int32) (x2 : Int32) (x3 : Int32) : Option (Int32) :=
  if x0 = 0 then
    o_b1 (f_X8_sum x1 x2) (fun (r38 : Int32) =>
    if r38 = x3 then
      some 1
    else
      some 0)
  else
  if x0 = 1 then
    o_b1 (f_X8_product x1 x2) (fun (r53 : Int32) =>
    if r53 = x3 then
      some 1
    else
      some 0)
  else
  if x0 = 2 then
    if x1 ≤ x2 then
      f_X8_holds_B76 x3 x2
    else
      f_X8_holds_B76 x3 x1
  else
  if x0 = 3 then
    o_b1 (f_X8_number x1) (fun (r87 : UInt32) =>
    o_b1 (f_X8_number x2) (fun (r91 : UInt32) =>
    if 0 ≤ (Op.cmpValue (FP.fcmp r87 r91) .g) then
      some 0
    else
      some 1))
  else
  if x0 = 4 then
    o_b1 (f_X8_number x1) (fun (r105 : UInt32) =>
    o_b1 (f_X8_number x2) (fun (r109 : UInt32) =>
    if (Op.cmpValue (FP.fcmp r105 r109) .l) = 0 then
      some 1
    else
      some 0))
  else
  if x2 = (((-1)) - x1) then
    some 1
  else
    some 0
set_option maxHeartbeats 4000000 in
set_option maxRecDepth 100000 in
theorem w_X8_holds_B0 {p : Program} {l : Launch} {e : Env} {s : State} {m : MethodId} {args : Array Value} {below : List Frame} {meth : Method} {c : Code} {r : Int32} (C0 : g_cx cX8_holds (some .boolean) 4 RX8 wsX8_holds p s m args meth c) : ∀ (x0 : Int32) (x1 : Int32) (x2 : Int32) (x3 : Int32) (ls : Array Slot), f_X8_holds x0 x1 x2 x3 = some r → lv_has ls 4 [(0, .int x0), (1, .int x1), (2, .int x2), (3, .int x3)] → W p l e rm_X8_holds s m args below meth c s.heap [] 0 0 (MQ below (g_SI r) args s 0 0 (fun _ => False)) (F0 m 0 ls []) := by
  obtain ⟨hx, hb, hr, hml, hown, hts, hlocks⟩ := id C0
  intro x0 x1 x2 x3 ls hf hl
  unfold f_X8_holds at hf
  refine lv_iload_n hx hb dX8_holds_0 rfl (lv_at hl 0 rfl) ?_
  by_cases c1_0 : x0 = 0
  · replace hf := o_t c1_0 hf
    refine lv_tableIn (off := 35) (tgt := 36) hx hb dX8_holds_1 (by rw [o_sw (a := 0) rfl c1_0]; decide) (by rw [o_sw (a := 0) rfl c1_0]; decide) (by rw [o_sw (a := 0) rfl c1_0]; rfl) (by decide) ?_
    refine lv_iload_n hx hb dX8_holds_36 rfl (lv_at hl 1 rfl) ?_
    refine lv_iload_n hx hb dX8_holds_37 rfl (lv_at hl 2 rfl) ?_
    obtain ⟨r38, hg38, hf⟩ := o_b1_go hf
    refine g_callSi (rest := []) ⟨hx, hb, hml, hown, hts⟩ (c_X8_sum l hg38) (va_cwS 2 hts gX8_holds_X8_sum rfl rfl rfl (by decide +kernel) ⟨Nat.le_of_ble_eq_true rfl, Nat.le_of_ble_eq_true rfl⟩) rfl hl.1 rfl (Nat.le_of_ble_eq_true rfl) dX8_holds_38 ?_
    refine lv_iload_n hx hb dX8_holds_41 rfl (lv_at hl 3 rfl) ?_
    refine lv_icmp_ne (tgt := 49) hx hb dX8_holds_42 (by decide) (fun c42 => ?_) (fun c42 => ?_)
    · replace hf := o_f c42 hf
      refine lv_iconst (v := 0) hx hb dX8_holds_49 (by decide) ?_
      have q0 := Option.some.inj hf
      subst q0
      exact g_szret hx hb hr hlocks (by decide) dX8_holds_50
    · replace hf := o_t c42 hf
      refine lv_iconst (v := 1) hx hb dX8_holds_45 (by decide) ?_
      refine lv_goto (tgt := 50) hx hb dX8_holds_46 (by decide) ?_
      have q0 := Option.some.inj hf
      subst q0
      exact g_szret hx hb hr hlocks (by decide) dX8_holds_50
  replace hf := o_f c1_0 hf
  by_cases c1_1 : x0 = 1
  · replace hf := o_t c1_1 hf
    refine lv_tableIn (off := 50) (tgt := 51) hx hb dX8_holds_1 (by rw [o_sw (a := 1) rfl c1_1]; decide) (by rw [o_sw (a := 1) rfl c1_1]; decide) (by rw [o_sw (a := 1) rfl c1_1]; rfl) (by decide) ?_
    refine lv_iload_n hx hb dX8_holds_51 rfl (lv_at hl 1 rfl) ?_
    refine lv_iload_n hx hb dX8_holds_52 rfl (lv_at hl 2 rfl) ?_
    obtain ⟨r53, hg53, hf⟩ := o_b1_go hf
    refine g_callSi (rest := []) ⟨hx, hb, hml, hown, hts⟩ (c_X8_product l hg53) (va_cwS 2 hts gX8_holds_X8_product rfl rfl rfl (by decide +kernel) ⟨Nat.le_of_ble_eq_true rfl, Nat.le_of_ble_eq_true rfl⟩) rfl hl.1 rfl (Nat.le_of_ble_eq_true rfl) dX8_holds_53 ?_
    refine lv_iload_n hx hb dX8_holds_56 rfl (lv_at hl 3 rfl) ?_
    refine lv_icmp_ne (tgt := 64) hx hb dX8_holds_57 (by decide) (fun c57 => ?_) (fun c57 => ?_)
    · replace hf := o_f c57 hf
      refine lv_iconst (v := 0) hx hb dX8_holds_64 (by decide) ?_
      have q0 := Option.some.inj hf
      subst q0
      exact g_szret hx hb hr hlocks (by decide) dX8_holds_65
    · replace hf := o_t c57 hf
      refine lv_iconst (v := 1) hx hb dX8_holds_60 (by decide) ?_
      refine lv_goto (tgt := 65) hx hb dX8_holds_61 (by decide) ?_
      have q0 := Option.some.inj hf
      subst q0
      exact g_szret hx hb hr hlocks (by decide) dX8_holds_65
  replace hf := o_f c1_1 hf
  by_cases c1_2 : x0 = 2
  · replace hf := o_t c1_2 hf
    refine lv_tableIn (off := 65) (tgt := 66) hx hb dX8_holds_1 (by rw [o_sw (a := 2) rfl c1_2]; decide) (by rw [o_sw (a := 2) rfl c1_2]; decide) (by rw [o_sw (a := 2) rfl c1_2]; rfl) (by decide) ?_
    refine lv_iload_n hx hb dX8_holds_66 rfl (lv_at hl 1 rfl) ?_
    refine lv_iload_n hx hb dX8_holds_67 rfl (lv_at hl 2 rfl) ?_
    refine lv_icmp_le (tgt := 75) hx hb dX8_holds_68 (by decide) (fun c68 => ?_) (fun c68 => ?_)
    · replace hf := o_t c68 hf
      refine lv_iload_n hx hb dX8_holds_75 rfl (lv_at hl 2 rfl) ?_
      exact w_X8_holds_B76 C0 x3 x2 ls hf (lv_sub hl [3] rfl)
    · replace hf := o_f c68 hf
      refine lv_iload_n hx hb dX8_holds_71 rfl (lv_at hl 1 rfl) ?_
      refine lv_goto (tgt := 76) hx hb dX8_holds_72 (by decide) ?_
      exact w_X8_holds_B76 C0 x3 x1 ls hf (lv_sub hl [3] rfl)
  replace hf := o_f c1_2 hf
  by_cases c1_3 : x0 = 3
  · replace hf := o_t c1_3 hf
    refine lv_tableIn (off := 85) (tgt := 86) hx hb dX8_holds_1 (by rw [o_sw (a := 3) rfl c1_3]; decide) (by rw [o_sw (a := 3) rfl c1_3]; decide) (by rw [o_sw (a := 3) rfl c1_3]; rfl) (by decide) ?_
    refine lv_iload_n hx hb dX8_holds_86 rfl (lv_at hl 1 rfl) ?_
    obtain ⟨r87, hg87, hf⟩ := o_b1_go hf
    refine g_callSf (rest := []) ⟨hx, hb, hml, hown, hts⟩ (c_X8_number l hg87) (va_cwS 1 hts gX8_holds_X8_number rfl rfl rfl (by decide +kernel) ⟨Nat.le_of_ble_eq_true rfl, Nat.le_of_ble_eq_true rfl⟩) rfl hl.1 rfl (Nat.le_of_ble_eq_true rfl) dX8_holds_87 ?_
    refine lv_iload_n hx hb dX8_holds_90 rfl (lv_at hl 2 rfl) ?_
    obtain ⟨r91, hg91, hf⟩ := o_b1_go hf
    refine g_callSf (rest := [.float r87]) ⟨hx, hb, hml, hown, hts⟩ (c_X8_number l hg91) (va_cwS 1 hts gX8_holds_X8_number rfl rfl rfl (by decide +kernel) ⟨Nat.le_of_ble_eq_true rfl, Nat.le_of_ble_eq_true rfl⟩) rfl hl.1 rfl (Nat.le_of_ble_eq_true rfl) dX8_holds_91 ?_
    refine lv_fcmp hx hb dX8_holds_94 ?_
    refine lv_if_ge (tgt := 102) hx hb dX8_holds_95 (by decide) (fun c95 => ?_) (fun c95 => ?_)
    · replace hf := o_t c95 hf
      refine lv_iconst (v := 0) hx hb dX8_holds_102 (by decide) ?_
      have q0 := Option.some.inj hf
      subst q0
      exact g_szret hx hb hr hlocks (by decide) dX8_holds_103
    · replace hf := o_f c95 hf
      refine lv_iconst (v := 1) hx hb dX8_holds_98 (by decide) ?_
      refine lv_goto (tgt := 103) hx hb dX8_holds_99 (by decide) ?_
      have q0 := Option.some.inj hf
      subst q0
      exact g_szret hx hb hr hlocks (by decide) dX8_holds_103
  replace hf := o_f c1_3 hf
  by_cases c1_4 : x0 = 4
  · replace hf := o_t c1_4 hf
    refine lv_tableIn (off := 103) (tgt := 104) hx hb dX8_holds_1 (by rw [o_sw (a := 4) rfl c1_4]; decide) (by rw [o_sw (a := 4) rfl c1_4]; decide) (by rw [o_sw (a := 4) rfl c1_4]; rfl) (by decide) ?_
    refine lv_iload_n hx hb dX8_holds_104 rfl (lv_at hl 1 rfl) ?_
    obtain ⟨r105, hg105, hf⟩ := o_b1_go hf
    refine g_callSf (rest := []) ⟨hx, hb, hml, hown, hts⟩ (c_X8_number l hg105) (va_cwS 1 hts gX8_holds_X8_number rfl rfl rfl (by decide +kernel) ⟨Nat.le_of_ble_eq_true rfl, Nat.le_of_ble_eq_true rfl⟩) rfl hl.1 rfl (Nat.le_of_ble_eq_true rfl) dX8_holds_105 ?_
    refine lv_iload_n hx hb dX8_holds_108 rfl (lv_at hl 2 rfl) ?_
    obtain ⟨r109, hg109, hf⟩ := o_b1_go hf
    refine g_callSf (rest := [.float r105]) ⟨hx, hb, hml, hown, hts⟩ (c_X8_number l hg109) (va_cwS 1 hts gX8_holds_X8_number rfl rfl rfl (by decide +kernel) ⟨Nat.le_of_ble_eq_true rfl, Nat.le_of_ble_eq_true rfl⟩) rfl hl.1 rfl (Nat.le_of_ble_eq_true rfl) dX8_holds_109 ?_
    refine lv_fcmp hx hb dX8_holds_112 ?_
    refine lv_if_ne (tgt := 120) hx hb dX8_holds_113 (by decide) (fun c113 => ?_) (fun c113 => ?_)
    · replace hf := o_f c113 hf
      refine lv_iconst (v := 0) hx hb dX8_holds_120 (by decide) ?_
      have q0 := Option.some.inj hf
      subst q0
      exact g_szret hx hb hr hlocks (by decide) dX8_holds_121
    · replace hf := o_t c113 hf
      refine lv_iconst (v := 1) hx hb dX8_holds_116 (by decide) ?_
      refine lv_goto (tgt := 121) hx hb dX8_holds_117 (by decide) ?_
      have q0 := Option.some.inj hf
      subst q0
      exact g_szret hx hb hr hlocks (by decide) dX8_holds_121
  replace hf := o_f c1_4 hf
  refine lv_tableOut (tgt := 122) hx hb dX8_holds_1 (by have n0 := lv_neT (a := 0) c1_0 rfl; have n1 := lv_neT (a := 1) c1_1 rfl; have n2 := lv_neT (a := 2) c1_2 rfl; have n3 := lv_neT (a := 3) c1_3 rfl; have n4 := lv_neT (a := 4) c1_4 rfl; omega) (by decide) ?_
  refine lv_iload_n hx hb dX8_holds_122 rfl (lv_at hl 2 rfl) ?_
  refine lv_iconst (v := (-1)) hx hb dX8_holds_123 (by decide) ?_
  refine lv_iload_n hx hb dX8_holds_124 rfl (lv_at hl 1 rfl) ?_
  refine lv_isub hx hb dX8_holds_125 ?_
  refine lv_icmp_ne (tgt := 133) hx hb dX8_holds_126 (by decide) (fun c126 => ?_) (fun c126 => ?_)
  · replace hf := o_f c126 hf
    refine lv_iconst (v := 0) hx hb dX8_holds_133 (by decide) ?_
    have q0 := Option.some.inj hf
    subst q0
    exact g_szret hx hb hr hlocks (by decide) dX8_holds_134
  · replace hf := o_t c126 hf
    refine lv_iconst (v := 1) hx hb dX8_holds_129 (by decide) ?_
    refine lv_goto (tgt := 134) hx hb dX8_holds_130 (by decide) ?_
    have q0 := Option.some.inj hf
    subst q0
    exact g_szret hx hb hr hlocks (by decide) dX8_holds_134
set_option maxHeartbeats 4000000 in
set_option maxRecDepth 100000 in
theorem c_X8_holds (l : Launch) {x0 : Int32} {x1 : Int32} {x2 : Int32} {x3 : Int32} {r : Int32} (hf : f_X8_holds x0 x1 x2 x3 = some r) : Met l yX8_holds wsX8_holds rm_X8_holds (g_PS [.int x0, .int x1, .int x2, .int x3]) (g_SI r) 0 0 (fun _ => False) := by
  refine g_metS (cc := cX8_holds) (maxL := 4) (ret := (some .boolean)) (by decide) rfl ?_
  intro p e s m below meth c C0
  have hl := lv_entry ([.int x0, .int x1, .int x2, .int x3]) (n := 4) (Nat.le_of_ble_eq_true rfl)
  rw [lg_entry_eq]
  generalize (lg_sl ([.int x0, .int x1, .int x2, .int x3]) ++ List.replicate (4 - (lg_sl ([.int x0, .int x1, .int x2, .int x3])).length) Slot.unset).toArray = ls at hl ⊢
  have hl : lv_has ls 4 [(0, .int x0), (1, .int x1), (2, .int x2), (3, .int x3)] := hl
  exact w_X8_holds_B0 C0 x0 x1 x2 x3 ls hf (lv_sub hl [0, 1, 2, 3] rfl)
