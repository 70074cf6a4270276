/-! FloatBoxes.of(II)I -/
abbrev rm_X7_of : Room := { frames := 1, cells := 0, slots := 0, locals := 21 }
abbrev ww_X7_of (cI cM : ClassId) (a_this a_this_now a_this_trial a_this_history a_this_cutter a_this_solver a_this_text a_this_refusals a_this_now_low a_this_now_high a_this_now_kind a_this_now_x a_this_now_y a_this_now_z : Nat) (v_now_unknowns : Int32) (v_now_rules : Int32) (v_refusals : Nat → Int32) (v_now_high : Nat → Int32) (v_now_low : Nat → Int32) : va_W := [(a_this, .inr (5, [.ref a_this_now, .ref a_this_trial, .ref a_this_history, .ref a_this_cutter, .ref a_this_solver, .ref a_this_text, .ref a_this_refusals])), (a_this_now, .inr (2, [.int v_now_unknowns, .int v_now_rules, .ref a_this_now_low, .ref a_this_now_high, .ref a_this_now_kind, .ref a_this_now_x, .ref a_this_now_y, .ref a_this_now_z])), (a_this_refusals, .inl (cI, 3, .inl v_refusals)), (a_this_now_high, .inl (cI, 6, .inl v_now_high)), (a_this_now_low, .inl (cI, 6, .inl v_now_low))]
def f_X7_of_B20 (v_now_unknowns : Int32) (v_now_high : Nat → Int32) (v_now_low : Nat → Int32) (v_refusals : Nat → Int32) : Option (Int32 × (Nat → Int32)) :=
  o_b2 (f_X7_refused v_refusals ((-2139095050))) (fun (r23 : Int32) (v_refusals_23 : Nat → Int32) =>
  some (r23, v_refusals_23))
set_option maxHeartbeats 4000000 in
set_option maxRecDepth 100000 in
theorem w_X7_of_B20 {p : Program} {l : Launch} {e : Env} {s : State} {m : MethodId} {args : Array Value} {below : List Frame} {meth : Method} {c : Code} {D : va_G} {cI cM : ClassId} {A : Nat → Prop} {a_this a_this_now a_this_trial a_this_history a_this_cutter a_this_solver a_this_text a_this_refusals a_this_now_low a_this_now_high a_this_now_kind a_this_now_x a_this_now_y a_this_now_z : Nat} {v_now_rules : Int32} {v_now_unknowns : Int32} {v_now_high : Nat → Int32} {v_now_low : Nat → Int32} {r : Int32} {o_refusals : Nat → Int32} (C0 : g_cx cX7_of (some .int) 3 RX7 wsX7_of p s m args meth c) (hA : ∀ q, s.heap.size ≤ q → A q) (hK : va_K D vwCl (g_tys cI cM) s) : ∀ (v_refusals : Nat → Int32) (H : Heap) (locs : List Loc) (ls : Array Slot), f_X7_of_B20 v_now_unknowns v_now_high v_now_low v_refusals = some (r, o_refusals) → va_P D vwCl (ww_X7_of cI cM a_this a_this_now a_this_trial a_this_history a_this_cutter a_this_solver a_this_text a_this_refusals a_this_now_low a_this_now_high a_this_now_kind a_this_now_x a_this_now_y a_this_now_z v_now_unknowns v_now_rules v_refusals v_now_high v_now_low) H → va_D A (ww_X7_of cI cM a_this a_this_now a_this_trial a_this_history a_this_cutter a_this_solver a_this_text a_this_refusals a_this_now_low a_this_now_high a_this_now_kind a_this_now_x a_this_now_y a_this_now_z v_now_unknowns v_now_rules v_refusals v_now_high v_now_low) → va_S A s.heap H locs → lv_has ls 3 [(0, .ref a_this)] → W p l e rm_X7_of s m args below meth c H locs 0 0 (MQ below (g_QI D (g_tys cI cM) A (ww_X7_of cI cM a_this a_this_now a_this_trial a_this_history a_this_cutter a_this_solver a_this_text a_this_refusals a_this_now_low a_this_now_high a_this_now_kind a_this_now_x a_this_now_y a_this_now_z v_now_unknowns v_now_rules o_refusals v_now_high v_now_low) r) args s 0 0 A) (F0 m 20 ls []) := by
  obtain ⟨hx, hb, hr, hml, hown, hts, hlocks⟩ := id C0
  intro v_refusals H locs ls hf hP hD hS hl
  unfold f_X7_of_B20 at hf
  refine lv_aload_n hx hb dX7_of_20 rfl (lv_at hl 0 rfl) ?_
  refine lv_ldc (v := (-2139095050)) hx hb hown (hts (.constant RX7 75 (-2139095050)) (List.mem_cons_of_mem _ (List.mem_append_left _ (List.mem_append_left _ (List.mem_of_getElem? (i := 1) rfl))))) dX7_of_21 ?_
  obtain ⟨r23, v_refusals_23, hg23, hf⟩ := o_b2_go hf
  refine g_callVi (wn := (ww_X7_of cI cM a_this a_this_now a_this_trial a_this_history a_this_cutter a_this_solver a_this_text a_this_refusals a_this_now_low a_this_now_high a_this_now_kind a_this_now_x a_this_now_y a_this_now_z v_now_unknowns v_now_rules v_refusals_23 v_now_high v_now_low)) (rest := []) ⟨hx, hb, hml, hown, hts⟩ (c_X7_refused l D cI cM a_this a_this_now a_this_trial a_this_history a_this_cutter a_this_solver a_this_text a_this_refusals H.size v_refusals hg23) (cwV 1 hts gX7_of_X7_refused rfl rfl rfl (by decide +kernel) ⟨Nat.le_of_ble_eq_true rfl, Nat.le_of_ble_eq_true rfl⟩) hK hP hD hS hA [0, 2] [1, 3, 4] [3, 0, 4, 1, 2] rfl rfl rfl rfl rfl rfl (by decide) rfl rfl rfl hl.1 rfl (Nat.le_of_ble_eq_true rfl) dX7_of_23 (fun H locs hP hD hS => ?_)
  obtain ⟨q0, y0⟩ := o_rp hf
  have q1 := Option.some.inj y0
  subst q0 q1
  exact g_iret hx hb hr hlocks hP hD hK hS dX7_of_26
def f_X7_of (v_now_unknowns : Int32) (v_now_high : Nat → Int32) (v_now_low : Nat → Int32) (v_refusals : Nat → Int32) (x1 : Int32) (x2 : Int32) : Option (Int32 × (Nat → Int32)) :=
  o_b1 (f_X3_hasUnknown v_now_unknowns x1) (fun (r5 : Int32) =>
  if r5 = 0 then
    f_X7_of_B20 v_now_unknowns v_now_high v_now_low v_refusals
  else
    if x2 < 0 then
      f_X7_of_B20 v_now_unknowns v_now_high v_now_low v_refusals
    else
      if x2 ≤ 1 then
        if x2 = 0 then
          o_in x1 6 (
          some (v_now_low x1.toNatClampNeg, v_refusals))
        else
          o_in x1 6 (
          some (v_now_high x1.toNatClampNeg, v_refusals))
      else
        f_X7_of_B20 v_now_unknowns v_now_high v_now_low v_refusals)
set_option maxHeartbeats 4000000 in
set_option maxRecDepth 100000 in
theorem w_X7_of_B0 {p : Program} {l : Launch} {e : Env} {s : State} {m : MethodId} {args : Array Value} {below : List Frame} {meth : Method} {c : Code} {D : va_G} {cI cM : ClassId} {A : Nat → Prop} {a_this a_this_now a_this_trial a_this_history a_this_cutter a_this_solver a_this_text a_this_refusals a_this_now_low a_this_now_high a_this_now_kind a_this_now_x a_this_now_y a_this_now_z : Nat} {v_now_rules : Int32} {v_now_unknowns : Int32} {v_now_high : Nat → Int32} {v_now_low : Nat → Int32} {r : Int32} {o_refusals : Nat → Int32} (C0 : g_cx cX7_of (some .int) 3 RX7 wsX7_of p s m args meth c) (hA : ∀ q, s.heap.size ≤ q → A q) (hK : va_K D vwCl (g_tys cI cM) s) : ∀ (v_refusals : Nat → Int32) (x1 : Int32) (x2 : Int32) (H : Heap) (locs : List Loc) (ls : Array Slot), f_X7_of v_now_unknowns v_now_high v_now_low v_refusals x1 x2 = some (r, o_refusals) → va_P D vwCl (ww_X7_of cI cM a_this a_this_now a_this_trial a_this_history a_this_cutter a_this_solver a_this_text a_this_refusals a_this_now_low a_this_now_high a_this_now_kind a_this_now_x a_this_now_y a_this_now_z v_now_unknowns v_now_rules v_refusals v_now_high v_now_low) H → va_D A (ww_X7_of cI cM a_this a_this_now a_this_trial a_this_history a_this_cutter a_this_solver a_this_text a_this_refusals a_this_now_low a_this_now_high a_this_now_kind a_this_now_x a_this_now_y a_this_now_z v_now_unknowns v_now_rules v_refusals v_now_high v_now_low) → va_S A s.heap H locs → lv_has ls 3 [(0, .ref a_this), (1, .int x1), (2, .int x2)] → W p l e rm_X7_of s m args below meth c H locs 0 0 (MQ below (g_QI D (g_tys cI cM) A (ww_X7_of cI cM a_this a_this_now a_this_trial a_this_history a_this_cutter a_this_solver a_this_text a_this_refusals a_this_now_low a_this_now_high a_this_now_kind a_this_now_x a_this_now_y a_this_now_z v_now_unknowns v_now_rules o_refusals v_now_high v_now_low) r) args s 0 0 A) (F0 m 0 ls []) := by
  obtain ⟨hx, hb, hr, hml, hown, hts, hlocks⟩ := id C0
  intro v_refusals x1 x2 H locs ls hf hP hD hS hl
  unfold f_X7_of at hf
  refine lv_aload_n hx hb dX7_of_0 rfl (lv_at hl 0 rfl) ?_
  refine va_get (D := D) (ci := 5) (v := .ref a_this_now) (C := RX7) (T := TX7) (N := 7) hx hb hts (fun _ h => (List.mem_cons_of_mem _ (List.mem_append_left _ (List.mem_append_right _ h)))) hown hK hP 0 rfl rfl 0 (by decide) (hts (.fieldLink RX7 10 "FloatBoxes" "now" "LFloatBoxes$Model;") (List.mem_cons_of_mem _ (List.mem_append_left _ (List.mem_append_left _ (List.mem_of_getElem? (i := 0) rfl))))) (fun _ h9 => h9) rfl dX7_of_1 ?_
  refine lv_iload_n hx hb dX7_of_4 rfl (lv_at hl 1 rfl) ?_
  obtain ⟨r5, hg5, hf⟩ := o_b1_go hf
  refine g_callVi (wn := (ww_X7_of cI cM a_this a_this_now a_this_trial a_this_history a_this_cutter a_this_solver a_this_text a_this_refusals a_this_now_low a_this_now_high a_this_now_kind a_this_now_x a_this_now_y a_this_now_z v_now_unknowns v_now_rules v_refusals v_now_high v_now_low)) (rest := []) ⟨hx, hb, hml, hown, hts⟩ (c_X3_hasUnknown l D cI cM a_this_now a_this_now_low a_this_now_high a_this_now_kind a_this_now_x a_this_now_y a_this_now_z H.size v_now_unknowns v_now_rules hg5) (cwV 1 hts gX7_of_X3_hasUnknown rfl rfl rfl (by decide +kernel) ⟨Nat.le_of_ble_eq_true rfl, Nat.le_of_ble_eq_true rfl⟩) hK hP hD hS hA [1] [0, 2, 3, 4] [0, 4, 1, 2, 3] rfl rfl rfl rfl rfl rfl (by decide) rfl rfl rfl hl.1 rfl (Nat.le_of_ble_eq_true rfl) dX7_of_5 (fun H locs hP hD hS => ?_)
  refine lv_if_eq (tgt := 20) hx hb dX7_of_8 (by decide) (fun c8 => ?_) (fun c8 => ?_)
  · replace hf := o_t c8 hf
    exact w_X7_of_B20 C0 hA hK v_refusals H locs ls hf hP hD hS (lv_sub hl [0] rfl)
  · replace hf := o_f c8 hf
    refine lv_iload_n hx hb dX7_of_11 rfl (lv_at hl 2 rfl) ?_
    refine lv_if_lt (tgt := 20) hx hb dX7_of_12 (by decide) (fun c12 => ?_) (fun c12 => ?_)
    · replace hf := o_t c12 hf
      exact w_X7_of_B20 C0 hA hK v_refusals H locs ls hf hP hD hS (lv_sub hl [0] rfl)
    · replace hf := o_f c12 hf
      refine lv_iload_n hx hb dX7_of_15 rfl (lv_at hl 2 rfl) ?_
      refine lv_iconst (v := 1) hx hb dX7_of_16 (by decide) ?_
      refine lv_icmp_le (tgt := 27) hx hb dX7_of_17 (by decide) (fun c17 => ?_) (fun c17 => ?_)
      · replace hf := o_t c17 hf
        refine lv_iload_n hx hb dX7_of_27 rfl (lv_at hl 2 rfl) ?_
        refine lv_if_ne (tgt := 43) hx hb dX7_of_28 (by decide) (fun c28 => ?_) (fun c28 => ?_)
        · replace hf := o_f c28 hf
          refine lv_aload_n hx hb dX7_of_43 rfl (lv_at hl 0 rfl) ?_
          refine va_get (D := D) (ci := 5) (v := .ref a_this_now) (C := RX7) (T := TX7) (N := 7) hx hb hts (fun _ h => (List.mem_cons_of_mem _ (List.mem_append_left _ (List.mem_append_right _ h)))) hown hK hP 0 rfl rfl 0 (by decide) (hts (.fieldLink RX7 10 "FloatBoxes" "now" "LFloatBoxes$Model;") (List.mem_cons_of_mem _ (List.mem_append_left _ (List.mem_append_left _ (List.mem_of_getElem? (i := 0) rfl))))) (fun _ h9 => h9) rfl dX7_of_44 ?_
          refine va_get (D := D) (ci := 2) (v := .ref a_this_now_high) (C := RX3) (T := TX3) (N := 8) hx hb hts (fun _ h => (List.mem_cons_of_mem _ (List.mem_append_right _ h))) hown hK hP 1 rfl rfl 3 (by decide) (hts (.fieldLink RX7 79 "FloatBoxes$Model" "high" "[I") (List.mem_cons_of_mem _ (List.mem_append_left _ (List.mem_append_left _ (List.mem_of_getElem? (i := 3) rfl))))) (fun _ h9 => h9) rfl dX7_of_47 ?_
          refine lv_iload_n hx hb dX7_of_50 rfl (lv_at hl 1 rfl) ?_
          obtain ⟨h51, hf⟩ := o_in_go hf
          refine va_iald hx hb hK hP 3 0 rfl rfl h51 dX7_of_51 ?_
          obtain ⟨q0, y0⟩ := o_rp hf
          have q1 := Option.some.inj y0
          subst q0 q1
          exact g_iret hx hb hr hlocks hP hD hK hS dX7_of_52
        · replace hf := o_t c28 hf
          refine lv_aload_n hx hb dX7_of_31 rfl (lv_at hl 0 rfl) ?_
          refine va_get (D := D) (ci := 5) (v := .ref a_this_now) (C := RX7) (T := TX7) (N := 7) hx hb hts (fun _ h => (List.mem_cons_of_mem _ (List.mem_append_left _ (List.mem_append_right _ h)))) hown hK hP 0 rfl rfl 0 (by decide) (hts (.fieldLink RX7 10 "FloatBoxes" "now" "LFloatBoxes$Model;") (List.mem_cons_of_mem _ (List.mem_append_left _ (List.mem_append_left _ (List.mem_of_getElem? (i := 0) rfl))))) (fun _ h9 => h9) rfl dX7_of_32 ?_
          refine va_get (D := D) (ci := 2) (v := .ref a_this_now_low) (C := RX3) (T := TX3) (N := 8) hx hb hts (fun _ h => (List.mem_cons_of_mem _ (List.mem_append_right _ h))) hown hK hP 1 rfl rfl 2 (by decide) (hts (.fieldLink RX7 76 "FloatBoxes$Model" "low" "[I") (List.mem_cons_of_mem _ (List.mem_append_left _ (List.mem_append_left _ (List.mem_of_getElem? (i := 2) rfl))))) (fun _ h9 => h9) rfl dX7_of_35 ?_
          refine lv_iload_n hx hb dX7_of_38 rfl (lv_at hl 1 rfl) ?_
          obtain ⟨h39, hf⟩ := o_in_go hf
          refine va_iald hx hb hK hP 4 0 rfl rfl h39 dX7_of_39 ?_
          refine lv_goto (tgt := 52) hx hb dX7_of_40 (by decide) ?_
          obtain ⟨q0, y0⟩ := o_rp hf
          have q1 := Option.some.inj y0
          subst q0 q1
          exact g_iret hx hb hr hlocks hP hD hK hS dX7_of_52
      · replace hf := o_f c17 hf
        exact w_X7_of_B20 C0 hA hK v_refusals H locs ls hf hP hD hS (lv_sub hl [0] rfl)
set_option maxHeartbeats 4000000 in
set_option maxRecDepth 100000 in
theorem c_X7_of (l : Launch) (D : va_G) (cI cM : ClassId) (a_this a_this_now a_this_trial a_this_history a_this_cutter a_this_solver a_this_text a_this_refusals a_this_now_low a_this_now_high a_this_now_kind a_this_now_x a_this_now_y a_this_now_z : Nat) (sz : Nat) (v_now_unknowns : Int32) (v_now_rules : Int32) (v_refusals : Nat → Int32) (v_now_high : Nat → Int32) (v_now_low : Nat → Int32) {x1 : Int32} {x2 : Int32} {r : Int32} {o_refusals : Nat → Int32} (hf : f_X7_of v_now_unknowns v_now_high v_now_low v_refusals x1 x2 = some (r, o_refusals)) : Met l yX7_of wsX7_of rm_X7_of (g_Pc D (g_tys cI cM) (ww_X7_of cI cM a_this a_this_now a_this_trial a_this_history a_this_cutter a_this_solver a_this_text a_this_refusals a_this_now_low a_this_now_high a_this_now_kind a_this_now_x a_this_now_y a_this_now_z v_now_unknowns v_now_rules v_refusals v_now_high v_now_low) sz [.ref a_this, .int x1, .int x2]) (g_QI D (g_tys cI cM) (va_A (ww_X7_of cI cM a_this a_this_now a_this_trial a_this_history a_this_cutter a_this_solver a_this_text a_this_refusals a_this_now_low a_this_now_high a_this_now_kind a_this_now_x a_this_now_y a_this_now_z v_now_unknowns v_now_rules v_refusals v_now_high v_now_low) sz) (ww_X7_of cI cM a_this a_this_now a_this_trial a_this_history a_this_cutter a_this_solver a_this_text a_this_refusals a_this_now_low a_this_now_high a_this_now_kind a_this_now_x a_this_now_y a_this_now_z v_now_unknowns v_now_rules o_refusals v_now_high v_now_low) r) 0 0 (va_A (ww_X7_of cI cM a_this a_this_now a_this_trial a_this_history a_this_cutter a_this_solver a_this_text a_this_refusals a_this_now_low a_this_now_high a_this_now_kind a_this_now_x a_this_now_y a_this_now_z v_now_unknowns v_now_rules v_refusals v_now_high v_now_low) sz) := by
  refine g_met (cc := cX7_of) (maxL := 3) (ret := (some .int)) (Qc := fun D A => g_QI D (g_tys cI cM) A (ww_X7_of cI cM a_this a_this_now a_this_trial a_this_history a_this_cutter a_this_solver a_this_text a_this_refusals a_this_now_low a_this_now_high a_this_now_kind a_this_now_x a_this_now_y a_this_now_z v_now_unknowns v_now_rules o_refusals v_now_high v_now_low) r) (by decide) rfl ?_
  intro p e s m below meth c A C0 hA hK hP hD
  have hl := lv_entry ([.ref a_this, .int x1, .int x2]) (n := 3) (Nat.le_of_ble_eq_true rfl)
  rw [lg_entry_eq]
  generalize (lg_sl ([.ref a_this, .int x1, .int x2]) ++ List.replicate (3 - (lg_sl ([.ref a_this, .int x1, .int x2])).length) Slot.unset).toArray = ls at hl ⊢
  have hl : lv_has ls 3 [(0, .ref a_this), (1, .int x1), (2, .int x2)] := hl
  exact w_X7_of_B0 C0 hA hK v_refusals x1 x2 s.heap [] ls hf hP hD va_S.rf (lv_sub hl [0, 1, 2] rfl)
/-! FloatBoxes.holding(I)J -/
abbrev rm_X7_holding : Room := { frames := 1, cells := 0, slots := 0, locals := 21 }
abbrev ww_X7_holding (cI cM : ClassId) (a_this a_this_now a_this_trial a_this_history a_this_cutter a_this_solver a_this_text a_this_refusals a_this_now_low a_this_now_high a_this_now_kind a_this_now_x a_this_now_y a_this_now_z : Nat) (v_now_unknowns : Int32) (v_now_rules : Int32) (v_now_low : Nat → Int32) (v_now_high : Nat → Int32) (v_refusals : Nat → Int32) : va_W := [(a_this, .inr (5, [.ref a_this_now, .ref a_this_trial, .ref a_this_history, .ref a_this_cutter, .ref a_this_solver, .ref a_this_text, .ref a_this_refusals])), (a_this_now, .inr (2, [.int v_now_unknowns, .int v_now_rules, .ref a_this_now_low, .ref a_this_now_high, .ref a_this_now_kind, .ref a_this_now_x, .ref a_this_now_y, .ref a_this_now_z])), (a_this_now_low, .inl (cI, 6, .inl v_now_low)), (a_this_now_high, .inl (cI, 6, .inl v_now_high)), (a_this_refusals, .inl (cI, 3, .inl v_refusals))]
def f_X7_holding (v_now_unknowns : Int32) (v_now_low : Nat → Int32) (v_now_high : Nat → Int32) (v_refusals : Nat → Int32) (x1 : Int32) : Option (Int64 × (Nat → Int32)) :=
  o_b1 (f_X3_hasUnknown v_now_unknowns x1) (fun (r5 : Int32) =>
  if r5 = 0 then
    o_b2 (f_X7_refused v_refusals ((-2139095050))) (fun (r14 : Int32) (v_refusals_14 : Nat → Int32) =>
    some (r14.toInt64, v_refusals_14))
  else
    o_in x1 6 (
    o_in x1 6 (
    o_b1 (f_X4_held (v_now_low x1.toNatClampNeg) (v_now_high x1.toNatClampNeg)) (fun (r37 : Int64) =>
    some (r37, v_refusals)))))
set_option maxHeartbeats 4000000 in
set_option maxRecDepth 100000 in
theorem w_X7_holding_B0 {p : Program} {l : Launch} {e : Env} {s : State} {m : MethodId} {args : Array Value} {below : List Frame} {meth : Method} {c : Code} {D : va_G} {cI cM : ClassId} {A : Nat → Prop} {a_this a_this_now a_this_trial a_this_history a_this_cutter a_this_solver a_this_text a_this_refusals a_this_now_low a_this_now_high a_this_now_kind a_this_now_x a_this_now_y a_this_now_z : Nat} {v_now_rules : Int32} {v_now_unknowns : Int32} {v_now_low : Nat → Int32} {v_now_high : Nat → Int32} {r : Int64} {o_refusals : Nat → Int32} (C0 : g_cx cX7_holding (some .long) 2 RX7 wsX7_holding p s m args meth c) (hA : ∀ q, s.heap.size ≤ q → A q) (hK : va_K D vwCl (g_tys cI cM) s) : ∀ (v_refusals : Nat → Int32) (x1 : Int32) (H : Heap) (locs : List Loc) (ls : Array Slot), f_X7_holding v_now_unknowns v_now_low v_now_high v_refusals x1 = some (r, o_refusals) → va_P D vwCl (ww_X7_holding cI cM a_this a_this_now a_this_trial a_this_history a_this_cutter a_this_solver a_this_text a_this_refusals a_this_now_low a_this_now_high a_this_now_kind a_this_now_x a_this_now_y a_this_now_z v_now_unknowns v_now_rules v_now_low v_now_high v_refusals) H → va_D A (ww_X7_holding cI cM a_this a_this_now a_this_trial a_this_history a_this_cutter a_this_solver a_this_text a_this_refusals a_this_now_low a_this_now_high a_this_now_kind a_this_now_x a_this_now_y a_this_now_z v_now_unknowns v_now_rules v_now_low v_now_high v_refusals) → va_S A s.heap H locs → lv_has ls 2 [(0, .ref a_this), (1, .int x1)] → W p l e rm_X7_holding s m args below meth c H locs 0 0 (MQ below (g_QL D (g_tys cI cM) A (ww_X7_holding cI cM a_this a_this_now a_this_trial a_this_history a_this_cutter a_this_solver a_this_text a_this_refusals a_this_now_low a_this_now_high a_this_now_kind a_this_now_x a_this_now_y a_this_now_z v_now_unknowns v_now_rules v_now_low v_now_high o_refusals) r) args s 0 0 A) (F0 m 0 ls []) := by
  obtain ⟨hx, hb, hr, hml, hown, hts, hlocks⟩ := id C0
  intro v_refusals x1 H locs ls hf hP hD hS hl
  unfold f_X7_holding at hf
  refine lv_aload_n hx hb dX7_holding_0 rfl (lv_at hl 0 rfl) ?_
  refine va_get (D := D) (ci := 5) (v := .ref a_this_now) (C := RX7) (T := TX7) (N := 7) hx hb hts (fun _ h => (List.mem_cons_of_mem _ (List.mem_append_left _ (List.mem_append_right _ h)))) hown hK hP 0 rfl rfl 0 (by decide) (hts (.fieldLink RX7 10 "FloatBoxes" "now" "LFloatBoxes$Model;") (List.mem_cons_of_mem _ (List.mem_append_left _ (List.mem_append_left _ (List.mem_of_getElem? (i := 0) rfl))))) (fun _ h9 => h9) rfl dX7_holding_1 ?_
  refine lv_iload_n hx hb dX7_holding_4 rfl (lv_at hl 1 rfl) ?_
  obtain ⟨r5, hg5, hf⟩ := o_b1_go hf
  refine g_callVi (wn := (ww_X7_holding cI cM a_this a_this_now a_this_trial a_this_history a_this_cutter a_this_solver a_this_text a_this_refusals a_this_now_low a_this_now_high a_this_now_kind a_this_now_x a_this_now_y a_this_now_z v_now_unknowns v_now_rules v_now_low v_now_high v_refusals)) (rest := []) ⟨hx, hb, hml, hown, hts⟩ (c_X3_hasUnknown l D cI cM a_this_now a_this_now_low a_this_now_high a_this_now_kind a_this_now_x a_this_now_y a_this_now_z H.size v_now_unknowns v_now_rules hg5) (cwV 1 hts gX7_holding_X3_hasUnknown rfl rfl rfl (by decide +kernel) ⟨Nat.le_of_ble_eq_true rfl, Nat.le_of_ble_eq_true rfl⟩) hK hP hD hS hA [1] [0, 2, 3, 4] [0, 4, 1, 2, 3] rfl rfl rfl rfl rfl rfl (by decide) rfl rfl rfl hl.1 rfl (Nat.le_of_ble_eq_true rfl) dX7_holding_5 (fun H locs hP hD hS => ?_)
  refine lv_if_ne (tgt := 19) hx hb dX7_holding_8 (by decide) (fun c8 => ?_) (fun c8 => ?_)
  · replace hf := o_f c8 hf
    refine lv_aload_n hx hb dX7_holding_19 rfl (lv_at hl 0 rfl) ?_
    refine va_get (D := D) (ci := 5) (v := .ref a_this_now) (C := RX7) (T := TX7) (N := 7) hx hb hts (fun _ h => (List.mem_cons_of_mem _ (List.mem_append_left _ (List.mem_append_right _ h)))) hown hK hP 0 rfl rfl 0 (by decide) (hts (.fieldLink RX7 10 "FloatBoxes" "now" "LFloatBoxes$Model;") (List.mem_cons_of_mem _ (List.mem_append_left _ (List.mem_append_left _ (List.mem_of_getElem? (i := 0) rfl))))) (fun _ h9 => h9) rfl dX7_holding_20 ?_
    refine va_get (D := D) (ci := 2) (v := .ref a_this_now_low) (C := RX3) (T := TX3) (N := 8) hx hb hts (fun _ h => (List.mem_cons_of_mem _ (List.mem_append_right _ h))) hown hK hP 1 rfl rfl 2 (by decide) (hts (.fieldLink RX7 76 "FloatBoxes$Model" "low" "[I") (List.mem_cons_of_mem _ (List.mem_append_left _ (List.mem_append_left _ (List.mem_of_getElem? (i := 2) rfl))))) (fun _ h9 => h9) rfl dX7_holding_23 ?_
    refine lv_iload_n hx hb dX7_holding_26 rfl (lv_at hl 1 rfl) ?_
    obtain ⟨h27, hf⟩ := o_in_go hf
    refine va_iald hx hb hK hP 2 0 rfl rfl h27 dX7_holding_27 ?_
    refine lv_aload_n hx hb dX7_holding_28 rfl (lv_at hl 0 rfl) ?_
    refine va_get (D := D) (ci := 5) (v := .ref a_this_now) (C := RX7) (T := TX7) (N := 7) hx hb hts (fun _ h => (List.mem_cons_of_mem _ (List.mem_append_left _ (List.mem_append_right _ h)))) hown hK hP 0 rfl rfl 0 (by decide) (hts (.fieldLink RX7 10 "FloatBoxes" "now" "LFloatBoxes$Model;") (List.mem_cons_of_mem _ (List.mem_append_left _ (List.mem_append_left _ (List.mem_of_getElem? (i := 0) rfl))))) (fun _ h9 => h9) rfl dX7_holding_29 ?_
    refine va_get (D := D) (ci := 2) (v := .ref a_this_now_high) (C := RX3) (T := TX3) (N := 8) hx hb hts (fun _ h => (List.mem_cons_of_mem _ (List.mem_append_right _ h))) hown hK hP 1 rfl rfl 3 (by decide) (hts (.fieldLink RX7 79 "FloatBoxes$Model" "high" "[I") (List.mem_cons_of_mem _ (List.mem_append_left _ (List.mem_append_left _ (List.mem_of_getElem? (i := 3) rfl))))) (fun _ h9 => h9) rfl dX7_holding_32 ?_
    refine lv_iload_n hx hb dX7_holding_35 rfl (lv_at hl 1 rfl) ?_
    obtain ⟨h36, hf⟩ := o_in_go hf
    refine va_iald hx hb hK hP 3 0 rfl rfl h36 dX7_holding_36 ?_
    obtain ⟨r37, hg37, hf⟩ := o_b1_go hf
    refine g_callSl (rest := []) ⟨hx, hb, hml, hown, hts⟩ (c_X4_held l hg37) (va_cwS 2 hts gX7_holding_X4_held rfl rfl rfl (by decide +kernel) ⟨Nat.le_of_ble_eq_true rfl, Nat.le_of_ble_eq_true rfl⟩) rfl hl.1 rfl (Nat.le_of_ble_eq_true rfl) dX7_holding_37 ?_
    obtain ⟨q0, y0⟩ := o_rp hf
    have q1 := Option.some.inj y0
    subst q0 q1
    exact g_lret hx hb hr hlocks hP hD hK hS dX7_holding_40
  · replace hf := o_t c8 hf
    refine lv_aload_n hx hb dX7_holding_11 rfl (lv_at hl 0 rfl) ?_
    refine lv_ldc (v := (-2139095050)) hx hb hown (hts (.constant RX7 75 (-2139095050)) (List.mem_cons_of_mem _ (List.mem_append_left _ (List.mem_append_left _ (List.mem_of_getElem? (i := 1) rfl))))) dX7_holding_12 ?_
    obtain ⟨r14, v_refusals_14, hg14, hf⟩ := o_b2_go hf
    refine g_callVi (wn := (ww_X7_holding cI cM a_this a_this_now a_this_trial a_this_history a_this_cutter a_this_solver a_this_text a_this_refusals a_this_now_low a_this_now_high a_this_now_kind a_this_now_x a_this_now_y a_this_now_z v_now_unknowns v_now_rules v_now_low v_now_high v_refusals_14)) (rest := []) ⟨hx, hb, hml, hown, hts⟩ (c_X7_refused l D cI cM a_this a_this_now a_this_trial a_this_history a_this_cutter a_this_solver a_this_text a_this_refusals H.size v_refusals hg14) (cwV 1 hts gX7_holding_X7_refused rfl rfl rfl (by decide +kernel) ⟨Nat.le_of_ble_eq_true rfl, Nat.le_of_ble_eq_true rfl⟩) hK hP hD hS hA [0, 4] [1, 2, 3] [3, 0, 1, 2, 4] rfl rfl rfl rfl rfl rfl (by decide) rfl rfl rfl hl.1 rfl (Nat.le_of_ble_eq_true rfl) dX7_holding_14 (fun H locs hP hD hS => ?_)
    refine lv_i2l hx hb dX7_holding_17 rfl ?_
    obtain ⟨q0, y0⟩ := o_rp hf
    have q1 := Option.some.inj y0
    subst q0 q1
    exact g_lret hx hb hr hlocks hP hD hK hS dX7_holding_18
set_option maxHeartbeats 4000000 in
set_option maxRecDepth 100000 in
theorem c_X7_holding (l : Launch) (D : va_G) (cI cM : ClassId) (a_this a_this_now a_this_trial a_this_history a_this_cutter a_this_solver a_this_text a_this_refusals a_this_now_low a_this_now_high a_this_now_kind a_this_now_x a_this_now_y a_this_now_z : Nat) (sz : Nat) (v_now_unknowns : Int32) (v_now_rules : Int32) (v_now_low : Nat → Int32) (v_now_high : Nat → Int32) (v_refusals : Nat → Int32) {x1 : Int32} {r : Int64} {o_refusals : Nat → Int32} (hf : f_X7_holding v_now_unknowns v_now_low v_now_high v_refusals x1 = some (r, o_refusals)) : Met l yX7_holding wsX7_holding rm_X7_holding (g_Pc D (g_tys cI cM) (ww_X7_holding cI cM a_this a_this_now a_this_trial a_this_history a_this_cutter a_this_solver a_this_text a_this_refusals a_this_now_low a_this_now_high a_this_now_kind a_this_now_x a_this_now_y a_this_now_z v_now_unknowns v_now_rules v_now_low v_now_high v_refusals) sz [.ref a_this, .int x1]) (g_QL D (g_tys cI cM) (va_A (ww_X7_holding cI cM a_this a_this_now a_this_trial a_this_history a_this_cutter a_this_solver a_this_text a_this_refusals a_this_now_low a_this_now_high a_this_now_kind a_this_now_x a_this_now_y a_this_now_z v_now_unknowns v_now_rules v_now_low v_now_high v_refusals) sz) (ww_X7_holding cI cM a_this a_this_now a_this_trial a_this_history a_this_cutter a_this_solver a_this_text a_this_refusals a_this_now_low a_this_now_high a_this_now_kind a_this_now_x a_this_now_y a_this_now_z v_now_unknowns v_now_rules v_now_low v_now_high o_refusals) r) 0 0 (va_A (ww_X7_holding cI cM a_this a_this_now a_this_trial a_this_history a_this_cutter a_this_solver a_this_text a_this_refusals a_this_now_low a_this_now_high a_this_now_kind a_this_now_x a_this_now_y a_this_now_z v_now_unknowns v_now_rules v_now_low v_now_high v_refusals) sz) := by
  refine g_met (cc := cX7_holding) (maxL := 2) (ret := (some .long)) (Qc := fun D A => g_QL D (g_tys cI cM) A (ww_X7_holding cI cM a_this a_this_now a_this_trial a_this_history a_this_cutter a_this_solver a_this_text a_this_refusals a_this_now_low a_this_now_high a_this_now_kind a_this_now_x a_this_now_y a_this_now_z v_now_unknowns v_now_rules v_now_low v_now_high o_refusals) r) (by decide) rfl ?_
  intro p e s m below meth c A C0 hA hK hP hD
  have hl := lv_entry ([.ref a_this, .int x1]) (n := 2) (Nat.le_of_ble_eq_true rfl)
  rw [lg_entry_eq]
  generalize (lg_sl ([.ref a_this, .int x1]) ++ List.replicate (2 - (lg_sl ([.ref a_this, .int x1])).length) Slot.unset).toArray = ls at hl ⊢
  have hl : lv_has ls 2 [(0, .ref a_this), (1, .int x1)] := hl
  exact w_X7_holding_B0 C0 hA hK v_refusals x1 s.heap [] ls hf hP hD va_S.rf (lv_sub hl [0, 1] rfl)
/-! FloatBoxes.about(II)I -/
abbrev rm_X7_about : Room := { frames := 1, cells := 0, slots := 0, locals := 21 }
abbrev ww_X7_about (cI cM : ClassId) (a_this a_this_now a_this_trial a_this_history a_this_cutter a_this_solver a_this_text a_this_refusals a_this_now_low a_this_now_high a_this_now_kind a_this_now_x a_this_now_y a_this_now_z : Nat) (v_now_unknowns : Int32) (v_now_rules : Int32) (v_refusals : Nat → Int32) (v_now_kind : Nat → Int32) (v_now_x : Nat → Int32) (v_now_y : Nat → Int32) (v_now_z : Nat → Int32) : va_W := [(a_this, .inr (5, [.ref a_this_now, .ref a_this_trial, .ref a_this_history, .ref a_this_cutter, .ref a_this_solver, .ref a_this_text, .ref a_this_refusals])), (a_this_now, .inr (2, [.int v_now_unknowns, .int v_now_rules, .ref a_this_now_low, .ref a_this_now_high, .ref a_this_now_kind, .ref a_this_now_x, .ref a_this_now_y, .ref a_this_now_z])), (a_this_refusals, .inl (cI, 3, .inl v_refusals)), (a_this_now_kind, .inl (cI, 6, .inl v_now_kind)), (a_this_now_x, .inl (cI, 6, .inl v_now_x)), (a_this_now_y, .inl (cI, 6, .inl v_now_y)), (a_this_now_z, .inl (cI, 6, .inl v_now_z))]
def f_X7_about_B20 (v_now_rules : Int32) (v_now_kind : Nat → Int32) (v_now_x : Nat → Int32) (v_now_y : Nat → Int32) (v_now_z : Nat → Int32) (v_refusals : Nat → Int32) : Option (Int32 × (Nat → Int32)) :=
  o_b2 (f_X7_refused v_refusals ((-2139095050))) (fun (r23 : Int32) (v_refusals_23 : Nat → Int32) =>
  some (r23, v_refusals_23))
set_option maxHeartbeats 4000000 in
set_option maxRecDepth 100000 in
theorem w_X7_about_B20 {p : Program} {l : Launch} {e : Env} {s : State} {m : MethodId} {args : Array Value} {below : List Frame} {meth : Method} {c : Code} {D : va_G} {cI cM : ClassId} {A : Nat → Prop} {a_this a_this_now a_this_trial a_this_history a_this_cutter a_this_solver a_this_text a_this_refusals a_this_now_low a_this_now_high a_this_now_kind a_this_now_x a_this_now_y a_this_now_z : Nat} {v_now_unknowns : Int32} {v_now_rules : Int32} {v_now_kind : Nat → Int32} {v_now_x : Nat → Int32} {v_now_y : Nat → Int32} {v_now_z : Nat → Int32} {r : Int32} {o_refusals : Nat → Int32} (C0 : g_cx cX7_about (some .int) 3 RX7 wsX7_about p s m args meth c) (hA : ∀ q, s.heap.size ≤ q → A q) (hK : va_K D vwCl (g_tys cI cM) s) : ∀ (v_refusals : Nat → Int32) (H : Heap) (locs : List Loc) (ls : Array Slot), f_X7_about_B20 v_now_rules v_now_kind v_now_x v_now_y v_now_z v_refusals = some (r, o_refusals) → va_P D vwCl (ww_X7_about cI cM a_this a_this_now a_this_trial a_this_history a_this_cutter a_this_solver a_this_text a_this_refusals a_this_now_low a_this_now_high a_this_now_kind a_this_now_x a_this_now_y a_this_now_z v_now_unknowns v_now_rules v_refusals v_now_kind v_now_x v_now_y v_now_z) H → va_D A (ww_X7_about cI cM a_this a_this_now a_this_trial a_this_history a_this_cutter a_this_solver a_this_text a_this_refusals a_this_now_low a_this_now_high a_this_now_kind a_this_now_x a_this_now_y a_this_now_z v_now_unknowns v_now_rules v_refusals v_now_kind v_now_x v_now_y v_now_z) → va_S A s.heap H locs → lv_has ls 3 [(0, .ref a_this)] → W p l e rm_X7_about s m args below meth c H locs 0 0 (MQ below (g_QI D (g_tys cI cM) A (ww_X7_about cI cM a_this a_this_now a_this_trial a_this_history a_this_cutter a_this_solver a_this_text a_this_refusals a_this_now_low a_this_now_high a_this_now_kind a_this_now_x a_this_now_y a_this_now_z v_now_unknowns v_now_rules o_refusals v_now_kind v_now_x v_now_y v_now_z) r) args s 0 0 A) (F0 m 20 ls []) := by
  obtain ⟨hx, hb, hr, hml, hown, hts, hlocks⟩ := id C0
  intro v_refusals H locs ls hf hP hD hS hl
  unfold f_X7_about_B20 at hf
  refine lv_aload_n hx hb dX7_about_20 rfl (lv_at hl 0 rfl) ?_
  refine lv_ldc (v := (-2139095050)) hx hb hown (hts (.constant RX7 75 (-2139095050)) (List.mem_cons_of_mem _ (List.mem_append_left _ (List.mem_append_left _ (List.mem_of_getElem? (i := 1) rfl))))) dX7_about_21 ?_
  obtain ⟨r23, v_refusals_23, hg23, hf⟩ := o_b2_go hf
  refine g_callVi (wn := (ww_X7_about cI cM a_this a_this_now a_this_trial a_this_history a_this_cutter a_this_solver a_this_text a_this_refusals a_this_now_low a_this_now_high a_this_now_kind a_this_now_x a_this_now_y a_this_now_z v_now_unknowns v_now_rules v_refusals_23 v_now_kind v_now_x v_now_y v_now_z)) (rest := []) ⟨hx, hb, hml, hown, hts⟩ (c_X7_refused l D cI cM a_this a_this_now a_this_trial a_this_history a_this_cutter a_this_solver a_this_text a_this_refusals H.size v_refusals hg23) (cwV 1 hts gX7_about_X7_refused rfl rfl rfl (by decide +kernel) ⟨Nat.le_of_ble_eq_true rfl, Nat.le_of_ble_eq_true rfl⟩) hK hP hD hS hA [0, 2] [1, 3, 4, 5, 6] [5, 0, 6, 1, 2, 3, 4] rfl rfl rfl rfl rfl rfl (by decide) rfl rfl rfl hl.1 rfl (Nat.le_of_ble_eq_true rfl) dX7_about_23 (fun H locs hP hD hS => ?_)
  obtain ⟨q0, y0⟩ := o_rp hf
  have q1 := Option.some.inj y0
  subst q0 q1
  exact g_iret hx hb hr hlocks hP hD hK hS dX7_about_26
def f_X7_about (v_now_rules : Int32) (v_now_kind : Nat → Int32) (v_now_x : Nat → Int32) (v_now_y : Nat → Int32) (v_now_z : Nat → Int32) (v_refusals : Nat → Int32) (x1 : Int32) (x2 : Int32) : Option (Int32 × (Nat → Int32)) :=
  o_b1 (f_X3_hasRule v_now_rules x1) (fun (r5 : Int32) =>
  if r5 = 0 then
    f_X7_about_B20 v_now_rules v_now_kind v_now_x v_now_y v_now_z v_refusals
  else
    if x2 < 0 then
      f_X7_about_B20 v_now_rules v_now_kind v_now_x v_now_y v_now_z v_refusals
    else
      if x2 ≤ 3 then
        if x2 = 0 then
          o_in x1 6 (
          some (v_now_kind x1.toNatClampNeg, v_refusals))
        else
        if x2 = 1 then
          o_in x1 6 (
          some (v_now_x x1.toNatClampNeg, v_refusals))
        else
        if x2 = 2 then
          o_in x1 6 (
          some (v_now_y x1.toNatClampNeg, v_refusals))
        else
        o_in x1 6 (
        some (v_now_z x1.toNatClampNeg, v_refusals))
      else
        f_X7_about_B20 v_now_rules v_now_kind v_now_x v_now_y v_now_z v_refusals)
set_option maxHeartbeats 4000000 in
set_option maxRecDepth 100000 in
theorem w_X7_about_B0 {p : Program} {l : Launch} {e : Env} {s : State} {m : MethodId} {args : Array Value} {below : List Frame} {meth : Method} {c : Code} {D : va_G} {cI cM : ClassId} {A : Nat → Prop} {a_this a_this_now a_this_trial a_this_history a_this_cutter a_this_solver a_this_text a_this_refusals a_this_now_low a_this_now_high a_this_now_kind a_this_now_x a_this_now_y a_this_now_z : Nat} {v_now_unknowns : Int32} {v_now_rules : Int32} {v_now_kind : Nat → Int32} {v_now_x : Nat → Int32} {v_now_y : Nat → Int32} {v_now_z : Nat → Int32} {r : Int32} {o_refusals : Nat → Int32} (C0 : g_cx cX7_about (some .int) 3 RX7 wsX7_about p s m args meth c) (hA : ∀ q, s.heap.size ≤ q → A q) (hK : va_K D vwCl (g_tys cI cM) s) : ∀ (v_refusals : Nat → Int32) (x1 : Int32) (x2 : Int32) (H : Heap) (locs : List Loc) (ls : Array Slot), f_X7_about v_now_rules v_now_kind v_now_x v_now_y v_now_z v_refusals x1 x2 = some (r, o_refusals) → va_P D vwCl (ww_X7_about cI cM a_this a_this_now a_this_trial a_this_history a_this_cutter a_this_solver a_this_text a_this_refusals a_this_now_low a_this_now_high a_this_now_kind a_this_now_x a_this_now_y a_this_now_z v_now_unknowns v_now_rules v_refusals v_now_kind v_now_x v_now_y v_now_z) H → va_D A (ww_X7_about cI cM a_this a_this_now a_this_trial a_this_history a_this_cutter a_this_solver a_this_text a_this_refusals a_this_now_low a_this_now_high a_this_now_kind a_this_now_x a_this_now_y a_this_now_z v_now_unknowns v_now_rules v_refusals v_now_kind v_now_x v_now_y v_now_z) → va_S A s.heap H locs → lv_has ls 3 [(0, .ref a_this), (1, .int x1), (2, .int x2)] → W p l e rm_X7_about s m args below meth c H locs 0 0 (MQ below (g_QI D (g_tys cI cM) A (ww_X7_about cI cM a_this a_this_now a_this_trial a_this_history a_this_cutter a_this_solver a_this_text a_this_refusals a_this_now_low a_this_now_high a_this_now_kind a_this_now_x a_this_now_y a_this_now_z v_now_unknowns v_now_rules o_refusals v_now_kind v_now_x v_now_y v_now_z) r) args s 0 0 A) (F0 m 0 ls []) := by
  obtain ⟨hx, hb, hr, hml, hown, hts, hlocks⟩ := id C0
  intro v_refusals x1 x2 H locs ls hf hP hD hS hl
  unfold f_X7_about at hf
  refine lv_aload_n hx hb dX7_about_0 rfl (lv_at hl 0 rfl) ?_
  refine va_get (D := D) (ci := 5) (v := .ref a_this_now) (C := RX7) (T := TX7) (N := 7) hx hb hts (fun _ h => (List.mem_cons_of_mem _ (List.mem_append_left _ (List.mem_append_right _ h)))) hown hK hP 0 rfl rfl 0 (by decide) (hts (.fieldLink RX7 10 "FloatBoxes" "now" "LFloatBoxes$Model;") (List.mem_cons_of_mem _ (List.mem_append_left _ (List.mem_append_left _ (List.mem_of_getElem? (i := 0) rfl))))) (fun _ h9 => h9) rfl dX7_about_1 ?_
  refine lv_iload_n hx hb dX7_about_4 rfl (lv_at hl 1 rfl) ?_
  obtain ⟨r5, hg5, hf⟩ := o_b1_go hf
  refine g_callVi (wn := (ww_X7_about cI cM a_this a_this_now a_this_trial a_this_history a_this_cutter a_this_solver a_this_text a_this_refusals a_this_now_low a_this_now_high a_this_now_kind a_this_now_x a_this_now_y a_this_now_z v_now_unknowns v_now_rules v_refusals v_now_kind v_now_x v_now_y v_now_z)) (rest := []) ⟨hx, hb, hml, hown, hts⟩ (c_X3_hasRule l D cI cM a_this_now a_this_now_low a_this_now_high a_this_now_kind a_this_now_x a_this_now_y a_this_now_z H.size v_now_unknowns v_now_rules hg5) (cwV 1 hts gX7_about_X3_hasRule rfl rfl rfl (by decide +kernel) ⟨Nat.le_of_ble_eq_true rfl, Nat.le_of_ble_eq_true rfl⟩) hK hP hD hS hA [1] [0, 2, 3, 4, 5, 6] [0, 6, 1, 2, 3, 4, 5] rfl rfl rfl rfl rfl rfl (by decide) rfl rfl rfl hl.1 rfl (Nat.le_of_ble_eq_true rfl) dX7_about_5 (fun H locs hP hD hS => ?_)
  refine lv_if_eq (tgt := 20) hx hb dX7_about_8 (by decide) (fun c8 => ?_) (fun c8 => ?_)
  · replace hf := o_t c8 hf
    exact w_X7_about_B20 C0 hA hK v_refusals H locs ls hf hP hD hS (lv_sub hl [0] rfl)
  · replace hf := o_f c8 hf
    refine lv_iload_n hx hb dX7_about_11 rfl (lv_at hl 2 rfl) ?_
    refine lv_if_lt (tgt := 20) hx hb dX7_about_12 (by decide) (fun c12 => ?_) (fun c12 => ?_)
    · replace hf := o_t c12 hf
      exact w_X7_about_B20 C0 hA hK v_refusals H locs ls hf hP hD hS (lv_sub hl [0] rfl)
    · replace hf := o_f c12 hf
      refine lv_iload_n hx hb dX7_about_15 rfl (lv_at hl 2 rfl) ?_
      refine lv_iconst (v := 3) hx hb dX7_about_16 (by decide) ?_
      refine lv_icmp_le (tgt := 27) hx hb dX7_about_17 (by decide) (fun c17 => ?_) (fun c17 => ?_)
      · replace hf := o_t c17 hf
        refine lv_iload_n hx hb dX7_about_27 rfl (lv_at hl 2 rfl) ?_
        by_cases c28_0 : x2 = 0
        · replace hf := o_t c28_0 hf
          refine lv_tableIn (off := 28) (tgt := 56) hx hb dX7_about_28 (by rw [o_sw (a := 0) rfl c28_0]; decide) (by rw [o_sw (a := 0) rfl c28_0]; decide) (by rw [o_sw (a := 0) rfl c28_0]; rfl) (by decide) ?_
          refine lv_aload_n hx hb dX7_about_56 rfl (lv_at hl 0 rfl) ?_
          refine va_get (D := D) (ci := 5) (v := .ref a_this_now) (C := RX7) (T := TX7) (N := 7) hx hb hts (fun _ h => (List.mem_cons_of_mem _ (List.mem_append_left _ (List.mem_append_right _ h)))) hown hK hP 0 rfl rfl 0 (by decide) (hts (.fieldLink RX7 10 "FloatBoxes" "now" "LFloatBoxes$Model;") (List.mem_cons_of_mem _ (List.mem_append_left _ (List.mem_append_left _ (List.mem_of_getElem? (i := 0) rfl))))) (fun _ h9 => h9) rfl dX7_about_57 ?_
          refine va_get (D := D) (ci := 2) (v := .ref a_this_now_kind) (C := RX3) (T := TX3) (N := 8) hx hb hts (fun _ h => (List.mem_cons_of_mem _ (List.mem_append_right _ h))) hown hK hP 1 rfl rfl 4 (by decide) (hts (.fieldLink RX7 106 "FloatBoxes$Model" "kind" "[I") (List.mem_cons_of_mem _ (List.mem_append_left _ (List.mem_append_left _ (List.mem_of_getElem? (i := 2) rfl))))) (fun _ h9 => h9) rfl dX7_about_60 ?_
          refine lv_iload_n hx hb dX7_about_63 rfl (lv_at hl 1 rfl) ?_
          obtain ⟨h64, hf⟩ := o_in_go hf
          refine va_iald hx hb hK hP 3 0 rfl rfl h64 dX7_about_64 ?_
          obtain ⟨q0, y0⟩ := o_rp hf
          have q1 := Option.some.inj y0
          subst q0 q1
          exact g_iret hx hb hr hlocks hP hD hK hS dX7_about_65
        replace hf := o_f c28_0 hf
        by_cases c28_1 : x2 = 1
        · replace hf := o_t c28_1 hf
          refine lv_tableIn (off := 38) (tgt := 66) hx hb dX7_about_28 (by rw [o_sw (a := 1) rfl c28_1]; decide) (by rw [o_sw (a := 1) rfl c28_1]; decide) (by rw [o_sw (a := 1) rfl c28_1]; rfl) (by decide) ?_
          refine lv_aload_n hx hb dX7_about_66 rfl (lv_at hl 0 rfl) ?_
          refine va_get (D := D) (ci := 5) (v := .ref a_this_now) (C := RX7) (T := TX7) (N := 7) hx hb hts (fun _ h => (List.mem_cons_of_mem _ (List.mem_append_left _ (List.mem_append_right _ h)))) hown hK hP 0 rfl rfl 0 (by decide) (hts (.fieldLink RX7 10 "FloatBoxes" "now" "LFloatBoxes$Model;") (List.mem_cons_of_mem _ (List.mem_append_left _ (List.mem_append_left _ (List.mem_of_getElem? (i := 0) rfl))))) (fun _ h9 => h9) rfl dX7_about_67 ?_
          refine va_get (D := D) (ci := 2) (v := .ref a_this_now_x) (C := RX3) (T := TX3) (N := 8) hx hb hts (fun _ h => (List.mem_cons_of_mem _ (List.mem_append_right _ h))) hown hK hP 1 rfl rfl 5 (by decide) (hts (.fieldLink RX7 109 "FloatBoxes$Model" "x" "[I") (List.mem_cons_of_mem _ (List.mem_append_left _ (List.mem_append_left _ (List.mem_of_getElem? (i := 3) rfl))))) (fun _ h9 => h9) rfl dX7_about_70 ?_
          refine lv_iload_n hx hb dX7_about_73 rfl (lv_at hl 1 rfl) ?_
          obtain ⟨h74, hf⟩ := o_in_go hf
          refine va_iald hx hb hK hP 4 0 rfl rfl h74 dX7_about_74 ?_
          obtain ⟨q0, y0⟩ := o_rp hf
          have q1 := Option.some.inj y0
          subst q0 q1
          exact g_iret hx hb hr hlocks hP hD hK hS dX7_about_75
        replace hf := o_f c28_1 hf
        by_cases c28_2 : x2 = 2
        · replace hf := o_t c28_2 hf
          refine lv_tableIn (off := 48) (tgt := 76) hx hb dX7_about_28 (by rw [o_sw (a := 2) rfl c28_2]; decide) (by rw [o_sw (a := 2) rfl c28_2]; decide) (by rw [o_sw (a := 2) rfl c28_2]; rfl) (by decide) ?_
          refine lv_aload_n hx hb dX7_about_76 rfl (lv_at hl 0 rfl) ?_
          refine va_get (D := D) (ci := 5) (v := .ref a_this_now) (C := RX7) (T := TX7) (N := 7) hx hb hts (fun _ h => (List.mem_cons_of_mem _ (List.mem_append_left _ (List.mem_append_right _ h)))) hown hK hP 0 rfl rfl 0 (by decide) (hts (.fieldLink RX7 10 "FloatBoxes" "now" "LFloatBoxes$Model;") (List.mem_cons_of_mem _ (List.mem_append_left _ (List.mem_append_left _ (List.mem_of_getElem? (i := 0) rfl))))) (fun _ h9 => h9) rfl dX7_about_77 ?_
          refine va_get (D := D) (ci := 2) (v := .ref a_this_now_y) (C := RX3) (T := TX3) (N := 8) hx hb hts (fun _ h => (List.mem_cons_of_mem _ (List.mem_append_right _ h))) hown hK hP 1 rfl rfl 6 (by decide) (hts (.fieldLink RX7 112 "FloatBoxes$Model" "y" "[I") (List.mem_cons_of_mem _ (List.mem_append_left _ (List.mem_append_left _ (List.mem_of_getElem? (i := 4) rfl))))) (fun _ h9 => h9) rfl dX7_about_80 ?_
          refine lv_iload_n hx hb dX7_about_83 rfl (lv_at hl 1 rfl) ?_
          obtain ⟨h84, hf⟩ := o_in_go hf
          refine va_iald hx hb hK hP 5 0 rfl rfl h84 dX7_about_84 ?_
          obtain ⟨q0, y0⟩ := o_rp hf
          have q1 := Option.some.inj y0
          subst q0 q1
          exact g_iret hx hb hr hlocks hP hD hK hS dX7_about_85
        replace hf := o_f c28_2 hf
        refine lv_tableOut (tgt := 86) hx hb dX7_about_28 (by have n0 := lv_neT (a := 0) c28_0 rfl; have n1 := lv_neT (a := 1) c28_1 rfl; have n2 := lv_neT (a := 2) c28_2 rfl; omega) (by decide) ?_
        refine lv_aload_n hx hb dX7_about_86 rfl (lv_at hl 0 rfl) ?_
        refine va_get (D := D) (ci := 5) (v := .ref a_this_now) (C := RX7) (T := TX7) (N := 7) hx hb hts (fun _ h => (List.mem_cons_of_mem _ (List.mem_append_left _ (List.mem_append_right _ h)))) hown hK hP 0 rfl rfl 0 (by decide) (hts (.fieldLink RX7 10 "FloatBoxes" "now" "LFloatBoxes$Model;") (List.mem_cons_of_mem _ (List.mem_append_left _ (List.mem_append_left _ (List.mem_of_getElem? (i := 0) rfl))))) (fun _ h9 => h9) rfl dX7_about_87 ?_
        refine va_get (D := D) (ci := 2) (v := .ref a_this_now_z) (C := RX3) (T := TX3) (N := 8) hx hb hts (fun _ h => (List.mem_cons_of_mem _ (List.mem_append_right _ h))) hown hK hP 1 rfl rfl 7 (by decide) (hts (.fieldLink RX7 115 "FloatBoxes$Model" "z" "[I") (List.mem_cons_of_mem _ (List.mem_append_left _ (List.mem_append_left _ (List.mem_of_getElem? (i := 5) rfl))))) (fun _ h9 => h9) rfl dX7_about_90 ?_
        refine lv_iload_n hx hb dX7_about_93 rfl (lv_at hl 1 rfl) ?_
        obtain ⟨h94, hf⟩ := o_in_go hf
        refine va_iald hx hb hK hP 6 0 rfl rfl h94 dX7_about_94 ?_
        obtain ⟨q0, y0⟩ := o_rp hf
        have q1 := Option.some.inj y0
        subst q0 q1
        exact g_iret hx hb hr hlocks hP hD hK hS dX7_about_95
      · replace hf := o_f c17 hf
        exact w_X7_about_B20 C0 hA hK v_refusals H locs ls hf hP hD hS (lv_sub hl [0] rfl)
set_option maxHeartbeats 4000000 in
set_option maxRecDepth 100000 in
theorem c_X7_about (l : Launch) (D : va_G) (cI cM : ClassId) (a_this a_this_now a_this_trial a_this_history a_this_cutter a_this_solver a_this_text a_this_refusals a_this_now_low a_this_now_high a_this_now_kind a_this_now_x a_this_now_y a_this_now_z : Nat) (sz : Nat) (v_now_unknowns : Int32) (v_now_rules : Int32) (v_refusals : Nat → Int32) (v_now_kind : Nat → Int32) (v_now_x : Nat → Int32) (v_now_y : Nat → Int32) (v_now_z : Nat → Int32) {x1 : Int32} {x2 : Int32} {r : Int32} {o_refusals : Nat → Int32} (hf : f_X7_about v_now_rules v_now_kind v_now_x v_now_y v_now_z v_refusals x1 x2 = some (r, o_refusals)) : Met l yX7_about wsX7_about rm_X7_about (g_Pc D (g_tys cI cM) (ww_X7_about cI cM a_this a_this_now a_this_trial a_this_history a_this_cutter a_this_solver a_this_text a_this_refusals a_this_now_low a_this_now_high a_this_now_kind a_this_now_x a_this_now_y a_this_now_z v_now_unknowns v_now_rules v_refusals v_now_kind v_now_x v_now_y v_now_z) sz [.ref a_this, .int x1, .int x2]) (g_QI D (g_tys cI cM) (va_A (ww_X7_about cI cM a_this a_this_now a_this_trial a_this_history a_this_cutter a_this_solver a_this_text a_this_refusals a_this_now_low a_this_now_high a_this_now_kind a_this_now_x a_this_now_y a_this_now_z v_now_unknowns v_now_rules v_refusals v_now_kind v_now_x v_now_y v_now_z) sz) (ww_X7_about cI cM a_this a_this_now a_this_trial a_this_history a_this_cutter a_this_solver a_this_text a_this_refusals a_this_now_low a_this_now_high a_this_now_kind a_this_now_x a_this_now_y a_this_now_z v_now_unknowns v_now_rules o_refusals v_now_kind v_now_x v_now_y v_now_z) r) 0 0 (va_A (ww_X7_about cI cM a_this a_this_now a_this_trial a_this_history a_this_cutter a_this_solver a_this_text a_this_refusals a_this_now_low a_this_now_high a_this_now_kind a_this_now_x a_this_now_y a_this_now_z v_now_unknowns v_now_rules v_refusals v_now_kind v_now_x v_now_y v_now_z) sz) := by
  refine g_met (cc := cX7_about) (maxL := 3) (ret := (some .int)) (Qc := fun D A => g_QI D (g_tys cI cM) A (ww_X7_about cI cM a_this a_this_now a_this_trial a_this_history a_this_cutter a_this_solver a_this_text a_this_refusals a_this_now_low a_this_now_high a_this_now_kind a_this_now_x a_this_now_y a_this_now_z v_now_unknowns v_now_rules o_refusals v_now_kind v_now_x v_now_y v_now_z) r) (by decide) rfl ?_
  intro p e s m below meth c A C0 hA hK hP hD
  have hl := lv_entry ([.ref a_this, .int x1, .int x2]) (n := 3) (Nat.le_of_ble_eq_true rfl)
  rw [lg_entry_eq]
  generalize (lg_sl ([.ref a_this, .int x1, .int x2]) ++ List.replicate (3 - (lg_sl ([.ref a_this, .int x1, .int x2])).length) Slot.unset).toArray = ls at hl ⊢
  have hl : lv_has ls 3 [(0, .ref a_this), (1, .int x1), (2, .int x2)] := hl
  exact w_X7_about_B0 C0 hA hK v_refusals x1 x2 s.heap [] ls hf hP hD va_S.rf (lv_sub hl [0, 1, 2] rfl)
/-! FloatBoxes.would(III)I -/
abbrev rm_X7_would : Room := { frames := 7, cells := 0, slots := 0, locals := 189 }
abbrev ww_X7_would (cI cM : ClassId) (a_this a_this_now a_this_trial a_this_history a_this_cutter a_this_solver a_this_text a_this_refusals a_this_now_low a_this_now_high a_this_now_kind a_this_now_x a_this_now_y a_this_now_z a_this_cutter_low a_this_cutter_high : Nat) (v_now_unknowns : Int32) (v_now_rules : Int32) (v_refusals : Nat → Int32) (v_cutter_cut : Int32) (v_cutter_empty : Int32) (v_now_low : Nat → Int32) (v_cutter_low : Nat → Int32) (v_now_high : Nat → Int32) (v_cutter_high : Nat → Int32) (v_now_x : Nat → Int32) (v_now_y : Nat → Int32) (v_now_z : Nat → Int32) (v_now_kind : Nat → Int32) : va_W := [(a_this, .inr (5, [.ref a_this_now, .ref a_this_trial, .ref a_this_history, .ref a_this_cutter, .ref a_this_solver, .ref a_this_text, .ref a_this_refusals])), (a_this_now, .inr (2, [.int v_now_unknowns, .int v_now_rules, .ref a_this_now_low, .ref a_this_now_high, .ref a_this_now_kind, .ref a_this_now_x, .ref a_this_now_y, .ref a_this_now_z])), (a_this_refusals, .inl (cI, 3, .inl v_refusals)), (a_this_cutter, .inr (0, [.ref a_this_cutter_low, .ref a_this_cutter_high, .int v_cutter_cut, .int v_cutter_empty])), (a_this_now_low, .inl (cI, 6, .inl v_now_low)), (a_this_cutter_low, .inl (cI, 6, .inl v_cutter_low)), (a_this_now_high, .inl (cI, 6, .inl v_now_high)), (a_this_cutter_high, .inl (cI, 6, .inl v_cutter_high)), (a_this_now_x, .inl (cI, 6, .inl v_now_x)), (a_this_now_y, .inl (cI, 6, .inl v_now_y)), (a_this_now_z, .inl (cI, 6, .inl v_now_z)), (a_this_now_kind, .inl (cI, 6, .inl v_now_kind))]
def f_X7_would_B31 (N : Nat) (v_now_unknowns : Int32) (v_now_rules : Int32) (v_now_low : Nat → Int32) (v_now_high : Nat → Int32) (v_now_x : Nat → Int32) (v_now_y : Nat → Int32) (v_now_z : Nat → Int32) (v_now_kind : Nat → Int32) (v_refusals : Nat → Int32) (v_cutter_cut : Int32) (v_cutter_empty : Int32) (v_cutter_low : Nat → Int32) (v_cutter_high : Nat → Int32) : Option (Int32 × (Nat → Int32) × Int32 × Int32 × (Nat → Int32) × (Nat → Int32)) :=
  o_b2 (f_X7_refused v_refusals ((-2139095050))) (fun (r34 : Int32) (v_refusals_34 : Nat → Int32) =>
  some (r34, v_refusals_34, v_cutter_cut, v_cutter_empty, v_cutter_low, v_cutter_high))
set_option maxHeartbeats 4000000 in
set_option maxRecDepth 100000 in
theorem w_X7_would_B31 {p : Program} {l : Launch} {e : Env} {s : State} {m : MethodId} {args : Array Value} {below : List Frame} {meth : Method} {c : Code} {D : va_G} {cI cM : ClassId} {A : Nat → Prop} {a_this a_this_now a_this_trial a_this_history a_this_cutter a_this_solver a_this_text a_this_refusals a_this_now_low a_this_now_high a_this_now_kind a_this_now_x a_this_now_y a_this_now_z a_this_cutter_low a_this_cutter_high : Nat} {N : Nat} {v_now_unknowns : Int32} {v_now_rules : Int32} {v_now_low : Nat → Int32} {v_now_high : Nat → Int32} {v_now_x : Nat → Int32} {v_now_y : Nat → Int32} {v_now_z : Nat → Int32} {v_now_kind : Nat → Int32} {r : Int32} {o_refusals : Nat → Int32} {o_cutter_cut : Int32} {o_cutter_empty : Int32} {o_cutter_low : Nat → Int32} {o_cutter_high : Nat → Int32} (C0 : g_cx cX7_would (some .int) 4 RX7 wsX7_would p s m args meth c) (hA : ∀ q, s.heap.size ≤ q → A q) (hK : va_K D vwCl (g_tys cI cM) s) : ∀ (v_refusals : Nat → Int32) (v_cutter_cut : Int32) (v_cutter_empty : Int32) (v_cutter_low : Nat → Int32) (v_cutter_high : Nat → Int32) (H : Heap) (locs : List Loc) (ls : Array Slot), f_X7_would_B31 N v_now_unknowns v_now_rules v_now_low v_now_high v_now_x v_now_y v_now_z v_now_kind v_refusals v_cutter_cut v_cutter_empty v_cutter_low v_cutter_high = some (r, o_refusals, o_cutter_cut, o_cutter_empty, o_cutter_low, o_cutter_high) → va_P D vwCl (ww_X7_would cI cM a_this a_this_now a_this_trial a_this_history a_this_cutter a_this_solver a_this_text a_this_refusals a_this_now_low a_this_now_high a_this_now_kind a_this_now_x a_this_now_y a_this_now_z a_this_cutter_low a_this_cutter_high v_now_unknowns v_now_rules v_refusals v_cutter_cut v_cutter_empty v_now_low v_cutter_low v_now_high v_cutter_high v_now_x v_now_y v_now_z v_now_kind) H → va_D A (ww_X7_would cI cM a_this a_this_now a_this_trial a_this_history a_this_cutter a_this_solver a_this_text a_this_refusals a_this_now_low a_this_now_high a_this_now_kind a_this_now_x a_this_now_y a_this_now_z a_this_cutter_low a_this_cutter_high v_now_unknowns v_now_rules v_refusals v_cutter_cut v_cutter_empty v_now_low v_cutter_low v_now_high v_cutter_high v_now_x v_now_y v_now_z v_now_kind) → va_S A s.heap H locs → lv_has ls 4 [(0, .ref a_this)] → W p l e rm_X7_would s m args below meth c H locs 0 0 (MQ below (g_QI D (g_tys cI cM) A (ww_X7_would cI cM a_this a_this_now a_this_trial a_this_history a_this_cutter a_this_solver a_this_text a_this_refusals a_this_now_low a_this_now_high a_this_now_kind a_this_now_x a_this_now_y a_this_now_z a_this_cutter_low a_this_cutter_high v_now_unknowns v_now_rules o_refusals o_cutter_cut o_cutter_empty v_now_low o_cutter_low v_now_high o_cutter_high v_now_x v_now_y v_now_z v_now_kind) r) args s 0 0 A) (F0 m 31 ls []) := by
  obtain ⟨hx, hb, hr, hml, hown, hts, hlocks⟩ := id C0
  intro v_refusals v_cutter_cut v_cutter_empty v_cutter_low v_cutter_high H locs ls hf hP hD hS hl
  unfold f_X7_would_B31 at hf
  refine lv_aload_n hx hb dX7_would_31 rfl (lv_at hl 0 rfl) ?_
  refine lv_ldc (v := (-2139095050)) hx hb hown (hts (.constant RX7 75 (-2139095050)) (List.mem_cons_of_mem _ (List.mem_append_left _ (List.mem_append_left _ (List.mem_append_left _ (List.mem_append_left _ (List.mem_of_getElem? (i := 1) rfl))))))) dX7_would_32 ?_
  obtain ⟨r34, v_refusals_34, hg34, hf⟩ := o_b2_go hf
  refine g_callVi (wn := (ww_X7_would cI cM a_this a_this_now a_this_trial a_this_history a_this_cutter a_this_solver a_this_text a_this_refusals a_this_now_low a_this_now_high a_this_now_kind a_this_now_x a_this_now_y a_this_now_z a_this_cutter_low a_this_cutter_high v_now_unknowns v_now_rules v_refusals_34 v_cutter_cut v_cutter_empty v_now_low v_cutter_low v_now_high v_cutter_high v_now_x v_now_y v_now_z v_now_kind)) (rest := []) ⟨hx, hb, hml, hown, hts⟩ (c_X7_refused l D cI cM a_this a_this_now a_this_trial a_this_history a_this_cutter a_this_solver a_this_text a_this_refusals H.size v_refusals hg34) (cwV 1 hts gX7_would_X7_refused rfl rfl rfl (by decide +kernel) ⟨Nat.le_of_ble_eq_true rfl, Nat.le_of_ble_eq_true rfl⟩) hK hP hD hS hA [0, 2] [1, 3, 4, 5, 6, 7, 8, 9, 10, 11] [10, 0, 11, 1, 2, 3, 4, 5, 6, 7, 8, 9] rfl rfl rfl rfl rfl rfl (by decide) rfl rfl rfl hl.1 rfl (Nat.le_of_ble_eq_true rfl) dX7_would_34 (fun H locs hP hD hS => ?_)
  obtain ⟨q0, y0⟩ := o_rp hf
  obtain ⟨q1, y1⟩ := o_rp y0
  obtain ⟨q2, y2⟩ := o_rp y1
  obtain ⟨q3, y3⟩ := o_rp y2
  obtain ⟨q4, y4⟩ := o_rp y3
  have q5 := Option.some.inj y4
  subst q0 q1 q2 q3 q4 q5
  exact g_iret hx hb hr hlocks hP hD hK hS dX7_would_37
def f_X7_would (N : Nat) (v_now_unknowns : Int32) (v_now_rules : Int32) (v_now_low : Nat → Int32) (v_now_high : Nat → Int32) (v_now_x : Nat → Int32) (v_now_y : Nat → Int32) (v_now_z : Nat → Int32) (v_now_kind : Nat → Int32) (v_refusals : Nat → Int32) (v_cutter_cut : Int32) (v_cutter_empty : Int32) (v_cutter_low : Nat → Int32) (v_cutter_high : Nat → Int32) (x1 : Int32) (x2 : Int32) (x3 : Int32) : Option (Int32 × (Nat → Int32) × Int32 × Int32 × (Nat → Int32) × (Nat → Int32)) :=
  o_b1 (f_X3_hasRule v_now_rules x1) (fun (r5 : Int32) =>
  if r5 = 0 then
    f_X7_would_B31 N v_now_unknowns v_now_rules v_now_low v_now_high v_now_x v_now_y v_now_z v_now_kind v_refusals v_cutter_cut v_cutter_empty v_cutter_low v_cutter_high
  else
    o_b1 (f_X3_hasUnknown v_now_unknowns x2) (fun (r16 : Int32) =>
    if r16 = 0 then
      f_X7_would_B31 N v_now_unknowns v_now_rules v_now_low v_now_high v_now_x v_now_y v_now_z v_now_kind v_refusals v_cutter_cut v_cutter_empty v_cutter_low v_cutter_high
    else
      if x3 < 0 then
        f_X7_would_B31 N v_now_unknowns v_now_rules v_now_low v_now_high v_now_x v_now_y v_now_z v_now_kind v_refusals v_cutter_cut v_cutter_empty v_cutter_low v_cutter_high
      else
        if x3 ≤ 1 then
          o_b2 (f_X0_load 6 6 v_now_low v_now_high v_cutter_low v_cutter_high 0) (fun (v_cutter_low_57 : Nat → Int32) (v_cutter_high_57 : Nat → Int32) =>
          o_b5 (f_X0_cutByRules N v_now_x v_now_y v_now_z v_now_kind v_cutter_cut v_cutter_empty v_cutter_low_57 v_cutter_high_57 x1 (x1 + 1) 1) (fun (r73 : Int32) (v_cutter_cut_73 : Int32) (v_cutter_empty_73 : Int32) (v_cutter_low_73 : Nat → Int32) (v_cutter_high_73 : Nat → Int32) =>
          if r73 = ((-2139095049)) then
            some ((-2139095049), v_refusals, v_cutter_cut_73, v_cutter_empty_73, v_cutter_low_73, v_cutter_high_73)
          else
            if x3 = 0 then
              o_in x2 6 (
              some (v_cutter_low_73 x2.toNatClampNeg, v_refusals, v_cutter_cut_73, v_cutter_empty_73, v_cutter_low_73, v_cutter_high_73))
            else
              o_in x2 6 (
              some (v_cutter_high_73 x2.toNatClampNeg, v_refusals, v_cutter_cut_73, v_cutter_empty_73, v_cutter_low_73, v_cutter_high_73))))
        else
          f_X7_would_B31 N v_now_unknowns v_now_rules v_now_low v_now_high v_now_x v_now_y v_now_z v_now_kind v_refusals v_cutter_cut v_cutter_empty v_cutter_low v_cutter_high))
set_option maxHeartbeats 4000000 in
set_option maxRecDepth 100000 in
theorem w_X7_would_B0 {p : Program} {l : Launch} {e : Env} {s : State} {m : MethodId} {args : Array Value} {below : List Frame} {meth : Method} {c : Code} {D : va_G} {cI cM : ClassId} {A : Nat → Prop} {a_this a_this_now a_this_trial a_this_history a_this_cutter a_this_solver a_this_text a_this_refusals a_this_now_low a_this_now_high a_this_now_kind a_this_now_x a_this_now_y a_this_now_z a_this_cutter_low a_this_cutter_high : Nat} {N : Nat} {v_now_unknowns : Int32} {v_now_rules : Int32} {v_now_low : Nat → Int32} {v_now_high : Nat → Int32} {v_now_x : Nat → Int32} {v_now_y : Nat → Int32} {v_now_z : Nat → Int32} {v_now_kind : Nat → Int32} {r : Int32} {o_refusals : Nat → Int32} {o_cutter_cut : Int32} {o_cutter_empty : Int32} {o_cutter_low : Nat → Int32} {o_cutter_high : Nat → Int32} (C0 : g_cx cX7_would (some .int) 4 RX7 wsX7_would p s m args meth c) (hA : ∀ q, s.heap.size ≤ q → A q) (hK : va_K D vwCl (g_tys cI cM) s) : ∀ (v_refusals : Nat → Int32) (v_cutter_cut : Int32) (v_cutter_empty : Int32) (v_cutter_low : Nat → Int32) (v_cutter_high : Nat → Int32) (x1 : Int32) (x2 : Int32) (x3 : Int32) (H : Heap) (locs : List Loc) (ls : Array Slot), f_X7_would N v_now_unknowns v_now_rules v_now_low v_now_high v_now_x v_now_y v_now_z v_now_kind v_refusals v_cutter_cut v_cutter_empty v_cutter_low v_cutter_high x1 x2 x3 = some (r, o_refusals, o_cutter_cut, o_cutter_empty, o_cutter_low, o_cutter_high) → va_P D vwCl (ww_X7_would cI cM a_this a_this_now a_this_trial a_this_history a_this_cutter a_this_solver a_this_text a_this_refusals a_this_now_low a_this_now_high a_this_now_kind a_this_now_x a_this_now_y a_this_now_z a_this_cutter_low a_this_cutter_high v_now_unknowns v_now_rules v_refusals v_cutter_cut v_cutter_empty v_now_low v_cutter_low v_now_high v_cutter_high v_now_x v_now_y v_now_z v_now_kind) H → va_D A (ww_X7_would cI cM a_this a_this_now a_this_trial a_this_history a_this_cutter a_this_solver a_this_text a_this_refusals a_this_now_low a_this_now_high a_this_now_kind a_this_now_x a_this_now_y a_this_now_z a_this_cutter_low a_this_cutter_high v_now_unknowns v_now_rules v_refusals v_cutter_cut v_cutter_empty v_now_low v_cutter_low v_now_high v_cutter_high v_now_x v_now_y v_now_z v_now_kind) → va_S A s.heap H locs → lv_has ls 4 [(0, .ref a_this), (1, .int x1), (2, .int x2), (3, .int x3)] → W p l e rm_X7_would s m args below meth c H locs 0 0 (MQ below (g_QI D (g_tys cI cM) A (ww_X7_would cI cM a_this a_this_now a_this_trial a_this_history a_this_cutter a_this_solver a_this_text a_this_refusals a_this_now_low a_this_now_high a_this_now_kind a_this_now_x a_this_now_y a_this_now_z a_this_cutter_low a_this_cutter_high v_now_unknowns v_now_rules o_refusals o_cutter_cut o_cutter_empty v_now_low o_cutter_low v_now_high o_cutter_high v_now_x v_now_y v_now_z v_now_kind) r) args s 0 0 A) (F0 m 0 ls []) := by
  obtain ⟨hx, hb, hr, hml, hown, hts, hlocks⟩ := id C0
  intro v_refusals v_cutter_cut v_cutter_empty v_cutter_low v_cutter_high x1 x2 x3 H locs ls hf hP hD hS hl
  unfold f_X7_would at hf
  refine lv_aload_n hx hb dX7_would_0 rfl (lv_at hl 0 rfl) ?_
  refine va_get (D := D) (ci := 5) (v := .ref a_this_now) (C := RX7) (T := TX7) (N := 7) hx hb hts (fun _ h => (List.mem_cons_of_mem _ (List.mem_append_left _ (List.mem_append_left _ (List.mem_append_right _ h))))) hown hK hP 0 rfl rfl 0 (by decide) (hts (.fieldLink RX7 10 "FloatBoxes" "now" "LFloatBoxes$Model;") (List.mem_cons_of_mem _ (List.mem_append_left _ (List.mem_append_left _ (List.mem_append_left _ (List.mem_append_left _ (List.mem_of_getElem? (i := 0) rfl))))))) (fun _ h9 => h9) rfl dX7_would_1 ?_
  refine lv_iload_n hx hb dX7_would_4 rfl (lv_at hl 1 rfl) ?_
  obtain ⟨r5, hg5, hf⟩ := o_b1_go hf
  refine g_callVi (wn := (ww_X7_would cI cM a_this a_this_now a_this_trial a_this_history a_this_cutter a_this_solver a_this_text a_this_refusals a_this_now_low a_this_now_high a_this_now_kind a_this_now_x a_this_now_y a_this_now_z a_this_cutter_low a_this_cutter_high v_now_unknowns v_now_rules v_refusals v_cutter_cut v_cutter_empty v_now_low v_cutter_low v_now_high v_cutter_high v_now_x v_now_y v_now_z v_now_kind)) (rest := []) ⟨hx, hb, hml, hown, hts⟩ (c_X3_hasRule l D cI cM a_this_now a_this_now_low a_this_now_high a_this_now_kind a_this_now_x a_this_now_y a_this_now_z H.size v_now_unknowns v_now_rules hg5) (cwV 1 hts gX7_would_X3_hasRule rfl rfl rfl (by decide +kernel) ⟨Nat.le_of_ble_eq_true rfl, Nat.le_of_ble_eq_true rfl⟩) hK hP hD hS hA [1] [0, 2, 3, 4, 5, 6, 7, 8, 9, 10, 11] [0, 11, 1, 2, 3, 4, 5, 6, 7, 8, 9, 10] rfl rfl rfl rfl rfl rfl (by decide) rfl rfl rfl hl.1 rfl (Nat.le_of_ble_eq_true rfl) dX7_would_5 (fun H locs hP hD hS => ?_)
  refine lv_if_eq (tgt := 31) hx hb dX7_would_8 (by decide) (fun c8 => ?_) (fun c8 => ?_)
  · replace hf := o_t c8 hf
    exact w_X7_would_B31 C0 hA hK v_refusals v_cutter_cut v_cutter_empty v_cutter_low v_cutter_high H locs ls hf hP hD hS (lv_sub hl [0] rfl)
  · replace hf := o_f c8 hf
    refine lv_aload_n hx hb dX7_would_11 rfl (lv_at hl 0 rfl) ?_
    refine va_get (D := D) (ci := 5) (v := .ref a_this_now) (C := RX7) (T := TX7) (N := 7) hx hb hts (fun _ h => (List.mem_cons_of_mem _ (List.mem_append_left _ (List.mem_append_left _ (List.mem_append_right _ h))))) hown hK hP 0 rfl rfl 0 (by decide) (hts (.fieldLink RX7 10 "FloatBoxes" "now" "LFloatBoxes$Model;") (List.mem_cons_of_mem _ (List.mem_append_left _ (List.mem_append_left _ (List.mem_append_left _ (List.mem_append_left _ (List.mem_of_getElem? (i := 0) rfl))))))) (fun _ h9 => h9) rfl dX7_would_12 ?_
    refine lv_iload_n hx hb dX7_would_15 rfl (lv_at hl 2 rfl) ?_
    obtain ⟨r16, hg16, hf⟩ := o_b1_go hf
    refine g_callVi (wn := (ww_X7_would cI cM a_this a_this_now a_this_trial a_this_history a_this_cutter a_this_solver a_this_text a_this_refusals a_this_now_low a_this_now_high a_this_now_kind a_this_now_x a_this_now_y a_this_now_z a_this_cutter_low a_this_cutter_high v_now_unknowns v_now_rules v_refusals v_cutter_cut v_cutter_empty v_now_low v_cutter_low v_now_high v_cutter_high v_now_x v_now_y v_now_z v_now_kind)) (rest := []) ⟨hx, hb, hml, hown, hts⟩ (c_X3_hasUnknown l D cI cM a_this_now a_this_now_low a_this_now_high a_this_now_kind a_this_now_x a_this_now_y a_this_now_z H.size v_now_unknowns v_now_rules hg16) (cwV 1 hts gX7_would_X3_hasUnknown rfl rfl rfl (by decide +kernel) ⟨Nat.le_of_ble_eq_true rfl, Nat.le_of_ble_eq_true rfl⟩) hK hP hD hS hA [1] [0, 2, 3, 4, 5, 6, 7, 8, 9, 10, 11] [0, 11, 1, 2, 3, 4, 5, 6, 7, 8, 9, 10] rfl rfl rfl rfl rfl rfl (by decide) rfl rfl rfl hl.1 rfl (Nat.le_of_ble_eq_true rfl) dX7_would_16 (fun H locs hP hD hS => ?_)
    refine lv_if_eq (tgt := 31) hx hb dX7_would_19 (by decide) (fun c19 => ?_) (fun c19 => ?_)
    · replace hf := o_t c19 hf
      exact w_X7_would_B31 C0 hA hK v_refusals v_cutter_cut v_cutter_empty v_cutter_low v_cutter_high H locs ls hf hP hD hS (lv_sub hl [0] rfl)
    · replace hf := o_f c19 hf
      refine lv_iload_n hx hb dX7_would_22 rfl (lv_at hl 3 rfl) ?_
      refine lv_if_lt (tgt := 31) hx hb dX7_would_23 (by decide) (fun c23 => ?_) (fun c23 => ?_)
      · replace hf := o_t c23 hf
        exact w_X7_would_B31 C0 hA hK v_refusals v_cutter_cut v_cutter_empty v_cutter_low v_cutter_high H locs ls hf hP hD hS (lv_sub hl [0] rfl)
      · replace hf := o_f c23 hf
        refine lv_iload_n hx hb dX7_would_26 rfl (lv_at hl 3 rfl) ?_
        refine lv_iconst (v := 1) hx hb dX7_would_27 (by decide) ?_
        refine lv_icmp_le (tgt := 38) hx hb dX7_would_28 (by decide) (fun c28 => ?_) (fun c28 => ?_)
        · replace hf := o_t c28 hf
          refine lv_aload_n hx hb dX7_would_38 rfl (lv_at hl 0 rfl) ?_
          refine va_get (D := D) (ci := 5) (v := .ref a_this_cutter) (C := RX7) (T := TX7) (N := 7) hx hb hts (fun _ h => (List.mem_cons_of_mem _ (List.mem_append_left _ (List.mem_append_left _ (List.mem_append_right _ h))))) hown hK hP 0 rfl rfl 3 (by decide) (hts (.fieldLink RX7 29 "FloatBoxes" "cutter" "LFloatBoxes$Cutter;") (List.mem_cons_of_mem _ (List.mem_append_left _ (List.mem_append_left _ (List.mem_append_left _ (List.mem_append_left _ (List.mem_of_getElem? (i := 2) rfl))))))) (fun _ h9 => h9) rfl dX7_would_39 ?_
          refine lv_aload_n hx hb dX7_would_42 rfl (lv_at hl 0 rfl) ?_
          refine va_get (D := D) (ci := 5) (v := .ref a_this_now) (C := RX7) (T := TX7) (N := 7) hx hb hts (fun _ h => (List.mem_cons_of_mem _ (List.mem_append_left _ (List.mem_append_left _ (List.mem_append_right _ h))))) hown hK hP 0 rfl rfl 0 (by decide) (hts (.fieldLink RX7 10 "FloatBoxes" "now" "LFloatBoxes$Model;") (List.mem_cons_of_mem _ (List.mem_append_left _ (List.mem_append_left _ (List.mem_append_left _ (List.mem_append_left _ (List.mem_of_getElem? (i := 0) rfl))))))) (fun _ h9 => h9) rfl dX7_would_43 ?_
          refine va_get (D := D) (ci := 2) (v := .ref a_this_now_low) (C := RX3) (T := TX3) (N := 8) hx hb hts (fun _ h => (List.mem_cons_of_mem _ (List.mem_append_left _ (List.mem_append_right _ h)))) hown hK hP 1 rfl rfl 2 (by decide) (hts (.fieldLink RX7 76 "FloatBoxes$Model" "low" "[I") (List.mem_cons_of_mem _ (List.mem_append_left _ (List.mem_append_left _ (List.mem_append_left _ (List.mem_append_left _ (List.mem_of_getElem? (i := 3) rfl))))))) (fun _ h9 => h9) rfl dX7_would_46 ?_
          refine lv_aload_n hx hb dX7_would_49 rfl (lv_at hl 0 rfl) ?_
          refine va_get (D := D) (ci := 5) (v := .ref a_this_now) (C := RX7) (T := TX7) (N := 7) hx hb hts (fun _ h => (List.mem_cons_of_mem _ (List.mem_append_left _ (List.mem_append_left _ (List.mem_append_right _ h))))) hown hK hP 0 rfl rfl 0 (by decide) (hts (.fieldLink RX7 10 "FloatBoxes" "now" "LFloatBoxes$Model;") (List.mem_cons_of_mem _ (List.mem_append_left _ (List.mem_append_left _ (List.mem_append_left _ (List.mem_append_left _ (List.mem_of_getElem? (i := 0) rfl))))))) (fun _ h9 => h9) rfl dX7_would_50 ?_
          refine va_get (D := D) (ci := 2) (v := .ref a_this_now_high) (C := RX3) (T := TX3) (N := 8) hx hb hts (fun _ h => (List.mem_cons_of_mem _ (List.mem_append_left _ (List.mem_append_right _ h)))) hown hK hP 1 rfl rfl 3 (by decide) (hts (.fieldLink RX7 79 "FloatBoxes$Model" "high" "[I") (List.mem_cons_of_mem _ (List.mem_append_left _ (List.mem_append_left _ (List.mem_append_left _ (List.mem_append_left _ (List.mem_of_getElem? (i := 4) rfl))))))) (fun _ h9 => h9) rfl dX7_would_53 ?_
          refine lv_iconst (v := 0) hx hb dX7_would_56 (by decide) ?_
          obtain ⟨v_cutter_low_57, v_cutter_high_57, hg57, hf⟩ := o_b2_go hf
          refine g_callVv (wn := (ww_X7_would cI cM a_this a_this_now a_this_trial a_this_history a_this_cutter a_this_solver a_this_text a_this_refusals a_this_now_low a_this_now_high a_this_now_kind a_this_now_x a_this_now_y a_this_now_z a_this_cutter_low a_this_cutter_high v_now_unknowns v_now_rules v_refusals v_cutter_cut v_cutter_empty v_now_low v_cutter_low_57 v_now_high v_cutter_high_57 v_now_x v_now_y v_now_z v_now_kind)) (rest := []) ⟨hx, hb, hml, hown, hts⟩ (c_X0_load l D cI cM 6 6 a_this_cutter a_this_cutter_low a_this_cutter_high a_this_now_low a_this_now_high H.size v_cutter_cut v_cutter_empty v_now_low v_cutter_low v_now_high v_cutter_high hg57) (cwV 3 hts gX7_would_X0_load rfl rfl rfl (by decide +kernel) ⟨Nat.le_of_ble_eq_true rfl, Nat.le_of_ble_eq_true rfl⟩) hK hP hD hS hA [3, 4, 5, 6, 7] [0, 1, 2, 8, 9, 10, 11] [0, 1, 2, 7, 8, 9, 10, 11, 3, 4, 5, 6] rfl rfl rfl rfl rfl rfl (by decide) rfl rfl rfl hl.1 rfl (Nat.le_of_ble_eq_true rfl) dX7_would_57 (fun H locs hP hD hS => ?_)
          refine lv_aload_n hx hb dX7_would_60 rfl (lv_at hl 0 rfl) ?_
          refine va_get (D := D) (ci := 5) (v := .ref a_this_cutter) (C := RX7) (T := TX7) (N := 7) hx hb hts (fun _ h => (List.mem_cons_of_mem _ (List.mem_append_left _ (List.mem_append_left _ (List.mem_append_right _ h))))) hown hK hP 0 rfl rfl 3 (by decide) (hts (.fieldLink RX7 29 "FloatBoxes" "cutter" "LFloatBoxes$Cutter;") (List.mem_cons_of_mem _ (List.mem_append_left _ (List.mem_append_left _ (List.mem_append_left _ (List.mem_append_left _ (List.mem_of_getElem? (i := 2) rfl))))))) (fun _ h9 => h9) rfl dX7_would_61 ?_
          refine lv_aload_n hx hb dX7_would_64 rfl (lv_at hl 0 rfl) ?_
          refine va_get (D := D) (ci := 5) (v := .ref a_this_now) (C := RX7) (T := TX7) (N := 7) hx hb hts (fun _ h => (List.mem_cons_of_mem _ (List.mem_append_left _ (List.mem_append_left _ (List.mem_append_right _ h))))) hown hK hP 0 rfl rfl 0 (by decide) (hts (.fieldLink RX7 10 "FloatBoxes" "now" "LFloatBoxes$Model;") (List.mem_cons_of_mem _ (List.mem_append_left _ (List.mem_append_left _ (List.mem_append_left _ (List.mem_append_left _ (List.mem_of_getElem? (i := 0) rfl))))))) (fun _ h9 => h9) rfl dX7_would_65 ?_
          refine lv_iload_n hx hb dX7_would_68 rfl (lv_at hl 1 rfl) ?_
          refine lv_iload_n hx hb dX7_would_69 rfl (lv_at hl 1 rfl) ?_
          refine lv_iconst (v := 1) hx hb dX7_would_70 (by decide) ?_
          refine lv_iadd hx hb dX7_would_71 ?_
          refine lv_iconst (v := 1) hx hb dX7_would_72 (by decide) ?_
          obtain ⟨r73, v_cutter_cut_73, v_cutter_empty_73, v_cutter_low_73, v_cutter_high_73, hg73, hf⟩ := o_b5_go hf
          refine g_callVi (wn := (ww_X7_would cI cM a_this a_this_now a_this_trial a_this_history a_this_cutter a_this_solver a_this_text a_this_refusals a_this_now_low a_this_now_high a_this_now_kind a_this_now_x a_this_now_y a_this_now_z a_this_cutter_low a_this_cutter_high v_now_unknowns v_now_rules v_refusals v_cutter_cut_73 v_cutter_empty_73 v_now_low v_cutter_low_73 v_now_high v_cutter_high_73 v_now_x v_now_y v_now_z v_now_kind)) (rest := []) ⟨hx, hb, hml, hown, hts⟩ (c_X0_cutByRules l D cI cM a_this_cutter a_this_cutter_low a_this_cutter_high a_this_now a_this_now_low a_this_now_high a_this_now_kind a_this_now_x a_this_now_y a_this_now_z H.size v_cutter_cut v_cutter_empty v_now_unknowns v_now_rules v_now_x v_now_y v_now_z v_now_kind v_cutter_low_57 v_cutter_high_57 hg73) (cwV 4 hts gX7_would_X0_cutByRules rfl rfl rfl (by decide +kernel) ⟨Nat.le_of_ble_eq_true rfl, Nat.le_of_ble_eq_true rfl⟩) hK hP hD hS hA [3, 1, 8, 9, 10, 11, 5, 7] [0, 2, 4, 6] [0, 5, 1, 4, 2, 10, 3, 11, 6, 7, 8, 9] rfl rfl rfl rfl rfl rfl (by decide) rfl rfl rfl hl.1 rfl (Nat.le_of_ble_eq_true rfl) dX7_would_73 (fun H locs hP hD hS => ?_)
          refine lv_ldc (v := (-2139095049)) hx hb hown (hts (.constant RX7 126 (-2139095049)) (List.mem_cons_of_mem _ (List.mem_append_left _ (List.mem_append_left _ (List.mem_append_left _ (List.mem_append_left _ (List.mem_of_getElem? (i := 5) rfl))))))) dX7_would_76 ?_
          refine lv_icmp_ne (tgt := 84) hx hb dX7_would_78 (by decide) (fun c78 => ?_) (fun c78 => ?_)
          · replace hf := o_f c78 hf
            refine lv_iload_n hx hb dX7_would_84 rfl (lv_at hl 3 rfl) ?_
            refine lv_if_ne (tgt := 100) hx hb dX7_would_85 (by decide) (fun c85 => ?_) (fun c85 => ?_)
            · replace hf := o_f c85 hf
              refine lv_aload_n hx hb dX7_would_100 rfl (lv_at hl 0 rfl) ?_
              refine va_get (D := D) (ci := 5) (v := .ref a_this_cutter) (C := RX7) (T := TX7) (N := 7) hx hb hts (fun _ h => (List.mem_cons_of_mem _ (List.mem_append_left _ (List.mem_append_left _ (List.mem_append_right _ h))))) hown hK hP 0 rfl rfl 3 (by decide) (hts (.fieldLink RX7 29 "FloatBoxes" "cutter" "LFloatBoxes$Cutter;") (List.mem_cons_of_mem _ (List.mem_append_left _ (List.mem_append_left _ (List.mem_append_left _ (List.mem_append_left _ (List.mem_of_getElem? (i := 2) rfl))))))) (fun _ h9 => h9) rfl dX7_would_101 ?_
              refine va_get (D := D) (ci := 0) (v := .ref a_this_cutter_high) (C := RX0) (T := TX0) (N := 4) hx hb hts (fun _ h => (List.mem_cons_of_mem _ (List.mem_append_right _ h))) hown hK hP 3 rfl rfl 1 (by decide) (hts (.fieldLink RX7 128 "FloatBoxes$Cutter" "high" "[I") (List.mem_cons_of_mem _ (List.mem_append_left _ (List.mem_append_left _ (List.mem_append_left _ (List.mem_append_left _ (List.mem_of_getElem? (i := 7) rfl))))))) (fun _ h9 => h9) rfl dX7_would_104 ?_
              refine lv_iload_n hx hb dX7_would_107 rfl (lv_at hl 2 rfl) ?_
              obtain ⟨h108, hf⟩ := o_in_go hf
              refine va_iald hx hb hK hP 7 0 rfl rfl h108 dX7_would_108 ?_
              obtain ⟨q0, y0⟩ := o_rp hf
              obtain ⟨q1, y1⟩ := o_rp y0
              obtain ⟨q2, y2⟩ := o_rp y1
              obtain ⟨q3, y3⟩ := o_rp y2
              obtain ⟨q4, y4⟩ := o_rp y3
              have q5 := Option.some.inj y4
              subst q0 q1 q2 q3 q4 q5
              exact g_iret hx hb hr hlocks hP hD hK hS dX7_would_109
            · replace hf := o_t c85 hf
              refine lv_aload_n hx hb dX7_would_88 rfl (lv_at hl 0 rfl) ?_
              refine va_get (D := D) (ci := 5) (v := .ref a_this_cutter) (C := RX7) (T := TX7) (N := 7) hx hb hts (fun _ h => (List.mem_cons_of_mem _ (List.mem_append_left _ (List.mem_append_left _ (List.mem_append_right _ h))))) hown hK hP 0 rfl rfl 3 (by decide) (hts (.fieldLink RX7 29 "FloatBoxes" "cutter" "LFloatBoxes$Cutter;") (List.mem_cons_of_mem _ (List.mem_append_left _ (List.mem_append_left _ (List.mem_append_left _ (List.mem_append_left _ (List.mem_of_getElem? (i := 2) rfl))))))) (fun _ h9 => h9) rfl dX7_would_89 ?_
              refine va_get (D := D) (ci := 0) (v := .ref a_this_cutter_low) (C := RX0) (T := TX0) (N := 4) hx hb hts (fun _ h => (List.mem_cons_of_mem _ (List.mem_append_right _ h))) hown hK hP 3 rfl rfl 0 (by decide) (hts (.fieldLink RX7 127 "FloatBoxes$Cutter" "low" "[I") (List.mem_cons_of_mem _ (List.mem_append_left _ (List.mem_append_left _ (List.mem_append_left _ (List.mem_append_left _ (List.mem_of_getElem? (i := 6) rfl))))))) (fun _ h9 => h9) rfl dX7_would_92 ?_
              refine lv_iload_n hx hb dX7_would_95 rfl (lv_at hl 2 rfl) ?_
              obtain ⟨h96, hf⟩ := o_in_go hf
              refine va_iald hx hb hK hP 5 0 rfl rfl h96 dX7_would_96 ?_
              refine lv_goto (tgt := 109) hx hb dX7_would_97 (by decide) ?_
              obtain ⟨q0, y0⟩ := o_rp hf
              obtain ⟨q1, y1⟩ := o_rp y0
              obtain ⟨q2, y2⟩ := o_rp y1
              obtain ⟨q3, y3⟩ := o_rp y2
              obtain ⟨q4, y4⟩ := o_rp y3
              have q5 := Option.some.inj y4
              subst q0 q1 q2 q3 q4 q5
              exact g_iret hx hb hr hlocks hP hD hK hS dX7_would_109
          · replace hf := o_t c78 hf
            refine lv_ldc (v := (-2139095049)) hx hb hown (hts (.constant RX7 126 (-2139095049)) (List.mem_cons_of_mem _ (List.mem_append_left _ (List.mem_append_left _ (List.mem_append_left _ (List.mem_append_left _ (List.mem_of_getElem? (i := 5) rfl))))))) dX7_would_81 ?_
            obtain ⟨q0, y0⟩ := o_rp hf
            obtain ⟨q1, y1⟩ := o_rp y0
            obtain ⟨q2, y2⟩ := o_rp y1
            obtain ⟨q3, y3⟩ := o_rp y2
            obtain ⟨q4, y4⟩ := o_rp y3
            have q5 := Option.some.inj y4
            subst q0 q1 q2 q3 q4 q5
            exact g_iret hx hb hr hlocks hP hD hK hS dX7_would_83
        · replace hf := o_f c28 hf
          exact w_X7_would_B31 C0 hA hK v_refusals v_cutter_cut v_cutter_empty v_cutter_low v_cutter_high H locs ls hf hP hD hS (lv_sub hl [0] rfl)
set_option maxHeartbeats 4000000 in
set_option maxRecDepth 100000 in
theorem c_X7_would (l : Launch) (D : va_G) (cI cM : ClassId) (a_this a_this_now a_this_trial a_this_history a_this_cutter a_this_solver a_this_text a_this_refusals a_this_now_low a_this_now_high a_this_now_kind a_this_now_x a_this_now_y a_this_now_z a_this_cutter_low a_this_cutter_high : Nat) (sz : Nat) (v_now_unknowns : Int32) (v_now_rules : Int32) (v_refusals : Nat → Int32) (v_cutter_cut : Int32) (v_cutter_empty : Int32) (v_now_low : Nat → Int32) (v_cutter_low : Nat → Int32) (v_now_high : Nat → Int32) (v_cutter_high : Nat → Int32) (v_now_x : Nat → Int32) (v_now_y : Nat → Int32) (v_now_z : Nat → Int32) (v_now_kind : Nat → Int32) {N : Nat} {x1 : Int32} {x2 : Int32} {x3 : Int32} {r : Int32} {o_refusals : Nat → Int32} {o_cutter_cut : Int32} {o_cutter_empty : Int32} {o_cutter_low : Nat → Int32} {o_cutter_high : Nat → Int32} (hf : f_X7_would N v_now_unknowns v_now_rules v_now_low v_now_high v_now_x v_now_y v_now_z v_now_kind v_refusals v_cutter_cut v_cutter_empty v_cutter_low v_cutter_high x1 x2 x3 = some (r, o_refusals, o_cutter_cut, o_cutter_empty, o_cutter_low, o_cutter_high)) : Met l yX7_would wsX7_would rm_X7_would (g_Pc D (g_tys cI cM) (ww_X7_would cI cM a_this a_this_now a_this_trial a_this_history a_this_cutter a_this_solver a_this_text a_this_refusals a_this_now_low a_this_now_high a_this_now_kind a_this_now_x a_this_now_y a_this_now_z a_this_cutter_low a_this_cutter_high v_now_unknowns v_now_rules v_refusals v_cutter_cut v_cutter_empty v_now_low v_cutter_low v_now_high v_cutter_high v_now_x v_now_y v_now_z v_now_kind) sz [.ref a_this, .int x1, .int x2, .int x3]) (g_QI D (g_tys cI cM) (va_A (ww_X7_would cI cM a_this a_this_now a_this_trial a_this_history a_this_cutter a_this_solver a_this_text a_this_refusals a_this_now_low a_this_now_high a_this_now_kind a_this_now_x a_this_now_y a_this_now_z a_this_cutter_low a_this_cutter_high v_now_unknowns v_now_rules v_refusals v_cutter_cut v_cutter_empty v_now_low v_cutter_low v_now_high v_cutter_high v_now_x v_now_y v_now_z v_now_kind) sz) (ww_X7_would cI cM a_this a_this_now a_this_trial a_this_history a_this_cutter a_this_solver a_this_text a_this_refusals a_this_now_low a_this_now_high a_this_now_kind a_this_now_x a_this_now_y a_this_now_z a_this_cutter_low a_this_cutter_high v_now_unknowns v_now_rules o_refusals o_cutter_cut o_cutter_empty v_now_low o_cutter_low v_now_high o_cutter_high v_now_x v_now_y v_now_z v_now_kind) r) 0 0 (va_A (ww_X7_would cI cM a_this a_this_now a_this_trial a_this_history a_this_cutter a_this_solver a_this_text a_this_refusals a_this_now_low a_this_now_high a_this_now_kind a_this_now_x a_this_now_y a_this_now_z a_this_cutter_low a_this_cutter_high v_now_unknowns v_now_rules v_refusals v_cutter_cut v_cutter_empty v_now_low v_cutter_low v_now_high v_cutter_high v_now_x v_now_y v_now_z v_now_kind) sz) := by
  refine g_met (cc := cX7_would) (maxL := 4) (ret := (some .int)) (Qc := fun D A => g_QI D (g_tys cI cM) A (ww_X7_would cI cM a_this a_this_now a_this_trial a_this_history a_this_cutter a_this_solver a_this_text a_this_refusals a_this_now_low a_this_now_high a_this_now_kind a_this_now_x a_this_now_y a_this_now_z a_this_cutter_low a_this_cutter_high v_now_unknowns v_now_rules o_refusals o_cutter_cut o_cutter_empty v_now_low o_cutter_low v_now_high o_cutter_high v_now_x v_now_y v_now_z v_now_kind) r) (by decide) rfl ?_
  intro p e s m below meth c A C0 hA hK hP hD
  have hl := lv_entry ([.ref a_this, .int x1, .int x2, .int x3]) (n := 4) (Nat.le_of_ble_eq_true rfl)
  rw [lg_entry_eq]
  generalize (lg_sl ([.ref a_this, .int x1, .int x2, .int x3]) ++ List.replicate (4 - (lg_sl ([.ref a_this, .int x1, .int x2, .int x3])).length) Slot.unset).toArray = ls at hl ⊢
  have hl : lv_has ls 4 [(0, .ref a_this), (1, .int x1), (2, .int x2), (3, .int x3)] := hl
  exact w_X7_would_B0 C0 hA hK v_refusals v_cutter_cut v_cutter_empty v_cutter_low v_cutter_high x1 x2 x3 s.heap [] ls hf hP hD va_S.rf (lv_sub hl [0, 1, 2, 3] rfl)
/-! FloatBoxes.does(IIII)I -/
abbrev rm_X7_does : Room := { frames := 5, cells := 0, slots := 0, locals := 129 }
abbrev ww_X7_does (cI cM : ClassId) (a_this a_this_now a_this_trial a_this_history a_this_cutter a_this_solver a_this_text a_this_refusals : Nat) (v_refusals : Nat → Int32) : va_W := [(a_this, .inr (5, [.ref a_this_now, .ref a_this_trial, .ref a_this_history, .ref a_this_cutter, .ref a_this_solver, .ref a_this_text, .ref a_this_refusals])), (a_this_refusals, .inl (cI, 3, .inl v_refusals))]
def f_X7_does_B48  (v_refusals : Nat → Int32) : Option (Int32 × (Nat → Int32)) :=
  o_b2 (f_X7_refused v_refusals ((-2139095050))) (fun (r51 : Int32) (v_refusals_51 : Nat → Int32) =>
  some (r51, v_refusals_51))
set_option maxHeartbeats 4000000 in
set_option maxRecDepth 100000 in
theorem w_X7_does_B48 {p : Program} {l : Launch} {e : Env} {s : State} {m : MethodId} {args : Array Value} {below : List Frame} {meth : Method} {c : Code} {D : va_G} {cI cM : ClassId} {A : Nat → Prop} {a_this a_this_now a_this_trial a_this_history a_this_cutter a_this_solver a_this_text a_this_refusals : Nat} {r : Int32} {o_refusals : Nat → Int32} (C0 : g_cx cX7_does (some .int) 6 RX7 wsX7_does p s m args meth c) (hA : ∀ q, s.heap.size ≤ q → A q) (hK : va_K D vwCl (g_tys cI cM) s) : ∀ (v_refusals : Nat → Int32) (H : Heap) (locs : List Loc) (ls : Array Slot), f_X7_does_B48 v_refusals = some (r, o_refusals) → va_P D vwCl (ww_X7_does cI cM a_this a_this_now a_this_trial a_this_history a_this_cutter a_this_solver a_this_text a_this_refusals v_refusals) H → va_D A (ww_X7_does cI cM a_this a_this_now a_this_trial a_this_history a_this_cutter a_this_solver a_this_text a_this_refusals v_refusals) → va_S A s.heap H locs → lv_has ls 6 [(0, .ref a_this)] → W p l e rm_X7_does s m args below meth c H locs 0 0 (MQ below (g_QI D (g_tys cI cM) A (ww_X7_does cI cM a_this a_this_now a_this_trial a_this_history a_this_cutter a_this_solver a_this_text a_this_refusals o_refusals) r) args s 0 0 A) (F0 m 48 ls []) := by
  obtain ⟨hx, hb, hr, hml, hown, hts, hlocks⟩ := id C0
  intro v_refusals H locs ls hf hP hD hS hl
  unfold f_X7_does_B48 at hf
  refine lv_aload_n hx hb dX7_does_48 rfl (lv_at hl 0 rfl) ?_
  refine lv_ldc (v := (-2139095050)) hx hb hown (hts (.constant RX7 75 (-2139095050)) (List.mem_cons_of_mem _ (List.mem_append_left _ (List.mem_append_left _ (List.mem_of_getElem? (i := 0) rfl))))) dX7_does_49 ?_
  obtain ⟨r51, v_refusals_51, hg51, hf⟩ := o_b2_go hf
  refine g_callVi (wn := (ww_X7_does cI cM a_this a_this_now a_this_trial a_this_history a_this_cutter a_this_solver a_this_text a_this_refusals v_refusals_51)) (rest := []) ⟨hx, hb, hml, hown, hts⟩ (c_X7_refused l D cI cM a_this a_this_now a_this_trial a_this_history a_this_cutter a_this_solver a_this_text a_this_refusals H.size v_refusals hg51) (cwV 1 hts gX7_does_X7_refused rfl rfl rfl (by decide +kernel) ⟨Nat.le_of_ble_eq_true rfl, Nat.le_of_ble_eq_true rfl⟩) hK hP hD hS hA [0, 1] [] [0, 1] rfl rfl rfl rfl rfl rfl (by decide) rfl rfl rfl hl.1 rfl (Nat.le_of_ble_eq_true rfl) dX7_does_51 (fun H locs hP hD hS => ?_)
  obtain ⟨q0, y0⟩ := o_rp hf
  have q1 := Option.some.inj y0
  subst q0 q1
  exact g_iret hx hb hr hlocks hP hD hK hS dX7_does_54
def f_X7_does_B55  (v_refusals : Nat → Int32) (x1 : Int32) (x2 : Int32) (x3 : Int32) (x4 : Int32) : Option (Int32 × (Nat → Int32)) :=
  o_b1 (f_X4_ruleHolds x1 x2 x3 x4) (fun (r60 : Int32) =>
  if r60 = 0 then
    some (0, v_refusals)
  else
    some (1, v_refusals))
set_option maxHeartbeats 4000000 in
set_option maxRecDepth 100000 in
theorem w_X7_does_B55 {p : Program} {l : Launch} {e : Env} {s : State} {m : MethodId} {args : Array Value} {below : List Frame} {meth : Method} {c : Code} {D : va_G} {cI cM : ClassId} {A : Nat → Prop} {a_this a_this_now a_this_trial a_this_history a_this_cutter a_this_solver a_this_text a_this_refusals : Nat} {r : Int32} {o_refusals : Nat → Int32} (C0 : g_cx cX7_does (some .int) 6 RX7 wsX7_does p s m args meth c) (hA : ∀ q, s.heap.size ≤ q → A q) (hK : va_K D vwCl (g_tys cI cM) s) : ∀ (v_refusals : Nat → Int32) (x1 : Int32) (x2 : Int32) (x3 : Int32) (x4 : Int32) (H : Heap) (locs : List Loc) (ls : Array Slot), f_X7_does_B55 v_refusals x1 x2 x3 x4 = some (r, o_refusals) → va_P D vwCl (ww_X7_does cI cM a_this a_this_now a_this_trial a_this_history a_this_cutter a_this_solver a_this_text a_this_refusals v_refusals) H → va_D A (ww_X7_does cI cM a_this a_this_now a_this_trial a_this_history a_this_cutter a_this_solver a_this_text a_this_refusals v_refusals) → va_S A s.heap H locs → lv_has ls 6 [(1, .int x1), (2, .int x2), (3, .int x3), (4, .int x4)] → W p l e rm_X7_does s m args below meth c H locs 0 0 (MQ below (g_QI D (g_tys cI cM) A (ww_X7_does cI cM a_this a_this_now a_this_trial a_this_history a_this_cutter a_this_solver a_this_text a_this_refusals o_refusals) r) args s 0 0 A) (F0 m 55 ls []) := by
  obtain ⟨hx, hb, hr, hml, hown, hts, hlocks⟩ := id C0
  intro v_refusals x1 x2 x3 x4 H locs ls hf hP hD hS hl
  unfold f_X7_does_B55 at hf
  refine lv_iload_n hx hb dX7_does_55 rfl (lv_at hl 0 rfl) ?_
  refine lv_iload_n hx hb dX7_does_56 rfl (lv_at hl 1 rfl) ?_
  refine lv_iload_n hx hb dX7_does_57 rfl (lv_at hl 2 rfl) ?_
  refine lv_iload hx hb dX7_does_58 (lv_at hl 3 rfl) ?_
  obtain ⟨r60, hg60, hf⟩ := o_b1_go hf
  refine g_callSi (rest := []) ⟨hx, hb, hml, hown, hts⟩ (c_X4_ruleHolds l hg60) (va_cwS 4 hts gX7_does_X4_ruleHolds rfl rfl rfl (by decide +kernel) ⟨Nat.le_of_ble_eq_true rfl, Nat.le_of_ble_eq_true rfl⟩) rfl hl.1 rfl (Nat.le_of_ble_eq_true rfl) dX7_does_60 ?_
  refine lv_if_eq (tgt := 70) hx hb dX7_does_63 (by decide) (fun c63 => ?_) (fun c63 => ?_)
  · replace hf := o_t c63 hf
    refine lv_iconst (v := 0) hx hb dX7_does_70 (by decide) ?_
    obtain ⟨q0, y0⟩ := o_rp hf
    have q1 := Option.some.inj y0
    subst q0 q1
    exact g_iret hx hb hr hlocks hP hD hK hS dX7_does_71
  · replace hf := o_f c63 hf
    refine lv_iconst (v := 1) hx hb dX7_does_66 (by decide) ?_
    refine lv_goto (tgt := 71) hx hb dX7_does_67 (by decide) ?_
    obtain ⟨q0, y0⟩ := o_rp hf
    have q1 := Option.some.inj y0
    subst q0 q1
    exact g_iret hx hb hr hlocks hP hD hK hS dX7_does_71
def f_X7_does_B28  (v_refusals : Nat → Int32) (x1 : Int32) (x2 : Int32) (x3 : Int32) (x4 : Int32) (z0 : Int32) : Option (Int32 × (Nat → Int32)) :=
  if z0 = 0 then
    if 3 ≤ x1 then
      f_X7_does_B55 v_refusals x1 x2 x3 x4
    else
      o_b1 (f_X4_isPlace x4) (fun (r42 : Int32) =>
      if r42 = 0 then
        f_X7_does_B48 v_refusals
      else
        f_X7_does_B55 v_refusals x1 x2 x3 x4)
  else
    f_X7_does_B48 v_refusals
set_option maxHeartbeats 4000000 in
set_option maxRecDepth 100000 in
theorem w_X7_does_B28 {p : Program} {l : Launch} {e : Env} {s : State} {m : MethodId} {args : Array Value} {below : List Frame} {meth : Method} {c : Code} {D : va_G} {cI cM : ClassId} {A : Nat → Prop} {a_this a_this_now a_this_trial a_this_history a_this_cutter a_this_solver a_this_text a_this_refusals : Nat} {r : Int32} {o_refusals : Nat → Int32} (C0 : g_cx cX7_does (some .int) 6 RX7 wsX7_does p s m args meth c) (hA : ∀ q, s.heap.size ≤ q → A q) (hK : va_K D vwCl (g_tys cI cM) s) : ∀ (v_refusals : Nat → Int32) (x1 : Int32) (x2 : Int32) (x3 : Int32) (x4 : Int32) (z0 : Int32) (H : Heap) (locs : List Loc) (ls : Array Slot), f_X7_does_B28 v_refusals x1 x2 x3 x4 z0 = some (r, o_refusals) → va_P D vwCl (ww_X7_does cI cM a_this a_this_now a_this_trial a_this_history a_this_cutter a_this_solver a_this_text a_this_refusals v_refusals) H → va_D A (ww_X7_does cI cM a_this a_this_now a_this_trial a_this_history a_this_cutter a_this_solver a_this_text a_this_refusals v_refusals) → va_S A s.heap H locs → lv_has ls 6 [(0, .ref a_this), (1, .int x1), (2, .int x2), (3, .int x3), (4, .int x4)] → W p l e rm_X7_does s m args below meth c H locs 0 0 (MQ below (g_QI D (g_tys cI cM) A (ww_X7_does cI cM a_this a_this_now a_this_trial a_this_history a_this_cutter a_this_solver a_this_text a_this_refusals o_refusals) r) args s 0 0 A) (F0 m 28 ls [.int z0]) := by
  obtain ⟨hx, hb, hr, hml, hown, hts, hlocks⟩ := id C0
  intro v_refusals x1 x2 x3 x4 z0 H locs ls hf hP hD hS hl
  unfold f_X7_does_B28 at hf
  refine lv_istore (lv' := [(5, .int z0), (0, .ref a_this), (1, .int x1), (2, .int x2), (3, .int x3), (4, .int x4)]) hx hb dX7_does_28 hl (by decide) rfl (fun ls hl => ?_)
  refine lv_iload hx hb dX7_does_30 (lv_at hl 0 rfl) ?_
  refine lv_if_ne (tgt := 48) hx hb dX7_does_32 (by decide) (fun c32 => ?_) (fun c32 => ?_)
  · replace hf := o_f c32 hf
    exact w_X7_does_B48 C0 hA hK v_refusals H locs ls hf hP hD hS (lv_sub hl [1] rfl)
  · replace hf := o_t c32 hf
    refine lv_iload_n hx hb dX7_does_35 rfl (lv_at hl 2 rfl) ?_
    refine lv_iconst (v := 3) hx hb dX7_does_36 (by decide) ?_
    refine lv_icmp_ge (tgt := 55) hx hb dX7_does_37 (by decide) (fun c37 => ?_) (fun c37 => ?_)
    · replace hf := o_t c37 hf
      exact w_X7_does_B55 C0 hA hK v_refusals x1 x2 x3 x4 H locs ls hf hP hD hS (lv_sub hl [2, 3, 4, 5] rfl)
    · replace hf := o_f c37 hf
      refine lv_iload hx hb dX7_does_40 (lv_at hl 5 rfl) ?_
      obtain ⟨r42, hg42, hf⟩ := o_b1_go hf
      refine g_callSi (rest := []) ⟨hx, hb, hml, hown, hts⟩ (c_X4_isPlace l hg42) (va_cwS 1 hts gX7_does_X4_isPlace rfl rfl rfl (by decide +kernel) ⟨Nat.le_of_ble_eq_true rfl, Nat.le_of_ble_eq_true rfl⟩) rfl hl.1 rfl (Nat.le_of_ble_eq_true rfl) dX7_does_42 ?_
      refine lv_if_ne (tgt := 55) hx hb dX7_does_45 (by decide) (fun c45 => ?_) (fun c45 => ?_)
      · replace hf := o_f c45 hf
        exact w_X7_does_B55 C0 hA hK v_refusals x1 x2 x3 x4 H locs ls hf hP hD hS (lv_sub hl [2, 3, 4, 5] rfl)
      · replace hf := o_t c45 hf
        exact w_X7_does_B48 C0 hA hK v_refusals H locs ls hf hP hD hS (lv_sub hl [1] rfl)
def f_X7_does_B23  (v_refusals : Nat → Int32) (x1 : Int32) (x2 : Int32) (x3 : Int32) (x4 : Int32) : Option (Int32 × (Nat → Int32)) :=
  f_X7_does_B28 v_refusals x1 x2 x3 x4 1
set_option maxHeartbeats 4000000 in
set_option maxRecDepth 100000 in
theorem w_X7_does_B23 {p : Program} {l : Launch} {e : Env} {s : State} {m : MethodId} {args : Array Value} {below : List Frame} {meth : Method} {c : Code} {D : va_G} {cI cM : ClassId} {A : Nat → Prop} {a_this a_this_now a_this_trial a_this_history a_this_cutter a_this_solver a_this_text a_this_refusals : Nat} {r : Int32} {o_refusals : Nat → Int32} (C0 : g_cx cX7_does (some .int) 6 RX7 wsX7_does p s m args meth c) (hA : ∀ q, s.heap.size ≤ q → A q) (hK : va_K D vwCl (g_tys cI cM) s) : ∀ (v_refusals : Nat → Int32) (x1 : Int32) (x2 : Int32) (x3 : Int32) (x4 : Int32) (H : Heap) (locs : List Loc) (ls : Array Slot), f_X7_does_B23 v_refusals x1 x2 x3 x4 = some (r, o_refusals) → va_P D vwCl (ww_X7_does cI cM a_this a_this_now a_this_trial a_this_history a_this_cutter a_this_solver a_this_text a_this_refusals v_refusals) H → va_D A (ww_X7_does cI cM a_this a_this_now a_this_trial a_this_history a_this_cutter a_this_solver a_this_text a_this_refusals v_refusals) → va_S A s.heap H locs → lv_has ls 6 [(0, .ref a_this), (1, .int x1), (2, .int x2), (3, .int x3), (4, .int x4)] → W p l e rm_X7_does s m args below meth c H locs 0 0 (MQ below (g_QI D (g_tys cI cM) A (ww_X7_does cI cM a_this a_this_now a_this_trial a_this_history a_this_cutter a_this_solver a_this_text a_this_refusals o_refusals) r) args s 0 0 A) (F0 m 23 ls []) := by
  obtain ⟨hx, hb, hr, hml, hown, hts, hlocks⟩ := id C0
  intro v_refusals x1 x2 x3 x4 H locs ls hf hP hD hS hl
  unfold f_X7_does_B23 at hf
  refine lv_iconst (v := 1) hx hb dX7_does_23 (by decide) ?_
  refine lv_goto (tgt := 28) hx hb dX7_does_24 (by decide) ?_
  exact w_X7_does_B28 C0 hA hK v_refusals x1 x2 x3 x4 1 H locs ls hf hP hD hS (lv_sub hl [0, 1, 2, 3, 4] rfl)
def f_X7_does  (v_refusals : Nat → Int32) (x1 : Int32) (x2 : Int32) (x3 : Int32) (x4 : Int32) : Option (Int32 × (Nat → Int32)) :=
  if x1 < 0 then
    f_X7_does_B23 v_refusals x1 x2 x3 x4
  else
    if 5 < x1 then
      f_X7_does_B23 v_refusals x1 x2 x3 x4
    else
      o_b1 (f_X4_isPlace x2) (fun (r10 : Int32) =>
      if r10 = 0 then
        f_X7_does_B23 v_refusals x1 x2 x3 x4
      else
        o_b1 (f_X4_isPlace x3) (fun (r17 : Int32) =>
        if r17 = 0 then
          f_X7_does_B23 v_refusals x1 x2 x3 x4
        else
          f_X7_does_B28 v_refusals x1 x2 x3 x4 0))
set_option maxHeartbeats 4000000 in
set_option maxRecDepth 100000 in
theorem w_X7_does_B0 {p : Program} {l : Launch} {e : Env} {s : State} {m : MethodId} {args : Array Value} {below : List Frame} {meth : Method} {c : Code} {D : va_G} {cI cM : ClassId} {A : Nat → Prop} {a_this a_this_now a_this_trial a_this_history a_this_cutter a_this_solver a_this_text a_this_refusals : Nat} {r : Int32} {o_refusals : Nat → Int32} (C0 : g_cx cX7_does (some .int) 6 RX7 wsX7_does p s m args meth c) (hA : ∀ q, s.heap.size ≤ q → A q) (hK : va_K D vwCl (g_tys cI cM) s) : ∀ (v_refusals : Nat → Int32) (x1 : Int32) (x2 : Int32) (x3 : Int32) (x4 : Int32) (H : Heap) (locs : List Loc) (ls : Array Slot), f_X7_does v_refusals x1 x2 x3 x4 = some (r, o_refusals) → va_P D vwCl (ww_X7_does cI cM a_this a_this_now a_this_trial a_this_history a_this_cutter a_this_solver a_this_text a_this_refusals v_refusals) H → va_D A (ww_X7_does cI cM a_this a_this_now a_this_trial a_this_history a_this_cutter a_this_solver a_this_text a_this_refusals v_refusals) → va_S A s.heap H locs → lv_has ls 6 [(0, .ref a_this), (1, .int x1), (2, .int x2), (3, .int x3), (4, .int x4)] → W p l e rm_X7_does s m args below meth c H locs 0 0 (MQ below (g_QI D (g_tys cI cM) A (ww_X7_does cI cM a_this a_this_now a_this_trial a_this_history a_this_cutter a_this_solver a_this_text a_this_refusals o_refusals) r) args s 0 0 A) (F0 m 0 ls []) := by
  obtain ⟨hx, hb, hr, hml, hown, hts, hlocks⟩ := id C0
  intro v_refusals x1 x2 x3 x4 H locs ls hf hP hD hS hl
  unfold f_X7_does at hf
  refine lv_iload_n hx hb dX7_does_0 rfl (lv_at hl 1 rfl) ?_
  refine lv_if_lt (tgt := 23) hx hb dX7_does_1 (by decide) (fun c1 => ?_) (fun c1 => ?_)
  · replace hf := o_t c1 hf
    exact w_X7_does_B23 C0 hA hK v_refusals x1 x2 x3 x4 H locs ls hf hP hD hS (lv_sub hl [0, 1, 2, 3, 4] rfl)
  · replace hf := o_f c1 hf
    refine lv_iload_n hx hb dX7_does_4 rfl (lv_at hl 1 rfl) ?_
    refine lv_iconst (v := 5) hx hb dX7_does_5 (by decide) ?_
    refine lv_icmp_gt (tgt := 23) hx hb dX7_does_6 (by decide) (fun c6 => ?_) (fun c6 => ?_)
    · replace hf := o_t c6 hf
      exact w_X7_does_B23 C0 hA hK v_refusals x1 x2 x3 x4 H locs ls hf hP hD hS (lv_sub hl [0, 1, 2, 3, 4] rfl)
    · replace hf := o_f c6 hf
      refine lv_iload_n hx hb dX7_does_9 rfl (lv_at hl 2 rfl) ?_
      obtain ⟨r10, hg10, hf⟩ := o_b1_go hf
      refine g_callSi (rest := []) ⟨hx, hb, hml, hown, hts⟩ (c_X4_isPlace l hg10) (va_cwS 1 hts gX7_does_X4_isPlace rfl rfl rfl (by decide +kernel) ⟨Nat.le_of_ble_eq_true rfl, Nat.le_of_ble_eq_true rfl⟩) rfl hl.1 rfl (Nat.le_of_ble_eq_true rfl) dX7_does_10 ?_
      refine lv_if_eq (tgt := 23) hx hb dX7_does_13 (by decide) (fun c13 => ?_) (fun c13 => ?_)
      · replace hf := o_t c13 hf
        exact w_X7_does_B23 C0 hA hK v_refusals x1 x2 x3 x4 H locs ls hf hP hD hS (lv_sub hl [0, 1, 2, 3, 4] rfl)
      · replace hf := o_f c13 hf
        refine lv_iload_n hx hb dX7_does_16 rfl (lv_at hl 3 rfl) ?_
        obtain ⟨r17, hg17, hf⟩ := o_b1_go hf
        refine g_callSi (rest := []) ⟨hx, hb, hml, hown, hts⟩ (c_X4_isPlace l hg17) (va_cwS 1 hts gX7_does_X4_isPlace rfl rfl rfl (by decide +kernel) ⟨Nat.le_of_ble_eq_true rfl, Nat.le_of_ble_eq_true rfl⟩) rfl hl.1 rfl (Nat.le_of_ble_eq_true rfl) dX7_does_17 ?_
        refine lv_if_ne (tgt := 27) hx hb dX7_does_20 (by decide) (fun c20 => ?_) (fun c20 => ?_)
        · replace hf := o_f c20 hf
          refine lv_iconst (v := 0) hx hb dX7_does_27 (by decide) ?_
          exact w_X7_does_B28 C0 hA hK v_refusals x1 x2 x3 x4 0 H locs ls hf hP hD hS (lv_sub hl [0, 1, 2, 3, 4] rfl)
        · replace hf := o_t c20 hf
          exact w_X7_does_B23 C0 hA hK v_refusals x1 x2 x3 x4 H locs ls hf hP hD hS (lv_sub hl [0, 1, 2, 3, 4] rfl)
set_option maxHeartbeats 4000000 in
set_option maxRecDepth 100000 in
theorem c_X7_does (l : Launch) (D : va_G) (cI cM : ClassId) (a_this a_this_now a_this_trial a_this_history a_this_cutter a_this_solver a_this_text a_this_refusals : Nat) (sz : Nat) (v_refusals : Nat → Int32) {x1 : Int32} {x2 : Int32} {x3 : Int32} {x4 : Int32} {r : Int32} {o_refusals : Nat → Int32} (hf : f_X7_does v_refusals x1 x2 x3 x4 = some (r, o_refusals)) : Met l yX7_does wsX7_does rm_X7_does (g_Pc D (g_tys cI cM) (ww_X7_does cI cM a_this a_this_now a_this_trial a_this_history a_this_cutter a_this_solver a_this_text a_this_refusals v_refusals) sz [.ref a_this, .int x1, .int x2, .int x3, .int x4]) (g_QI D (g_tys cI cM) (va_A (ww_X7_does cI cM a_this a_this_now a_this_trial a_this_history a_this_cutter a_this_solver a_this_text a_this_refusals v_refusals) sz) (ww_X7_does cI cM a_this a_this_now a_this_trial a_this_history a_this_cutter a_this_solver a_this_text a_this_refusals o_refusals) r) 0 0 (va_A (ww_X7_does cI cM a_this a_this_now a_this_trial a_this_history a_this_cutter a_this_solver a_this_text a_this_refusals v_refusals) sz) := by
  refine g_met (cc := cX7_does) (maxL := 6) (ret := (some .int)) (Qc := fun D A => g_QI D (g_tys cI cM) A (ww_X7_does cI cM a_this a_this_now a_this_trial a_this_history a_this_cutter a_this_solver a_this_text a_this_refusals o_refusals) r) (by decide) rfl ?_
  intro p e s m below meth c A C0 hA hK hP hD
  have hl := lv_entry ([.ref a_this, .int x1, .int x2, .int x3, .int x4]) (n := 6) (Nat.le_of_ble_eq_true rfl)
  rw [lg_entry_eq]
  generalize (lg_sl ([.ref a_this, .int x1, .int x2, .int x3, .int x4]) ++ List.replicate (6 - (lg_sl ([.ref a_this, .int x1, .int x2, .int x3, .int x4])).length) Slot.unset).toArray = ls at hl ⊢
  have hl : lv_has ls 6 [(0, .ref a_this), (1, .int x1), (2, .int x2), (3, .int x3), (4, .int x4)] := hl
  exact w_X7_does_B0 C0 hA hK v_refusals x1 x2 x3 x4 s.heap [] ls hf hP hD va_S.rf (lv_sub hl [0, 1, 2, 3, 4] rfl)
/-! FloatBoxes.solves(II)I -/
abbrev rm_X7_solves : Room := { frames := 8, cells := 0, slots := 0, locals := 213 }
abbrev ww_X7_solves (cI cM : ClassId) (a_this a_this_now a_this_trial a_this_history a_this_cutter a_this_solver a_this_text a_this_refusals a_this_solver_point a_this_solver_box a_this_solver_lows a_this_solver_highs a_this_now_low a_this_now_high a_this_now_kind a_this_now_x a_this_now_y a_this_now_z a_this_solver_box_low a_this_solver_box_high : Nat) (v_refusals : Nat → Int32) (v_solver_verdict : Int32) (v_solver_taken : Int32) (v_solver_left : Int32) (v_solver_solvedBy : Int32) (v_now_unknowns : Int32) (v_now_rules : Int32) (v_solver_box_cut : Int32) (v_solver_box_empty : Int32) (v_now_low : Nat → Int32) (v_solver_box_low : Nat → Int32) (v_now_high : Nat → Int32) (v_solver_box_high : Nat → Int32) (v_solver_lows : Nat → Int32) (v_solver_highs : Nat → Int32) (v_solver_point : Nat → Int32) (v_now_x : Nat → Int32) (v_now_y : Nat → Int32) (v_now_z : Nat → Int32) (v_now_kind : Nat → Int32) : va_W := [(a_this, .inr (5, [.ref a_this_now, .ref a_this_trial, .ref a_this_history, .ref a_this_cutter, .ref a_this_solver, .ref a_this_text, .ref a_this_refusals])), (a_this_refusals, .inl (cI, 3, .inl v_refusals)), (a_this_solver, .inr (3, [.int v_solver_verdict, .int v_solver_taken, .int v_solver_left, .ref a_this_solver_point, .int v_solver_solvedBy, .ref a_this_solver_box, .ref a_this_solver_lows, .ref a_this_solver_highs])), (a_this_now, .inr (2, [.int v_now_unknowns, .int v_now_rules, .ref a_this_now_low, .ref a_this_now_high, .ref a_this_now_kind, .ref a_this_now_x, .ref a_this_now_y, .ref a_this_now_z])), (a_this_solver_box, .inr (0, [.ref a_this_solver_box_low, .ref a_this_solver_box_high, .int v_solver_box_cut, .int v_solver_box_empty])), (a_this_now_low, .inl (cI, 6, .inl v_now_low)), (a_this_solver_box_low, .inl (cI, 6, .inl v_solver_box_low)), (a_this_now_high, .inl (cI, 6, .inl v_now_high)), (a_this_solver_box_high, .inl (cI, 6, .inl v_solver_box_high)), (a_this_solver_lows, .inl (cI, 366, .inl v_solver_lows)), (a_this_solver_highs, .inl (cI, 366, .inl v_solver_highs)), (a_this_solver_point, .inl (cI, 6, .inl v_solver_point)), (a_this_now_x, .inl (cI, 6, .inl v_now_x)), (a_this_now_y, .inl (cI, 6, .inl v_now_y)), (a_this_now_z, .inl (cI, 6, .inl v_now_z)), (a_this_now_kind, .inl (cI, 6, .inl v_now_kind))]
def f_X7_solves_B20 (N : Nat) (v_now_unknowns : Int32) (v_now_rules : Int32) (v_now_low : Nat → Int32) (v_now_high : Nat → Int32) (v_now_x : Nat → Int32) (v_now_y : Nat → Int32) (v_now_z : Nat → Int32) (v_now_kind : Nat → Int32) (v_refusals : Nat → Int32) (v_solver_verdict : Int32) (v_solver_taken : Int32) (v_solver_left : Int32) (v_solver_solvedBy : Int32) (v_solver_box_cut : Int32) (v_solver_box_empty : Int32) (v_solver_box_low : Nat → Int32) (v_solver_box_high : Nat → Int32) (v_solver_lows : Nat → Int32) (v_solver_highs : Nat → Int32) (v_solver_point : Nat → Int32) : Option (Int32 × (Nat → Int32) × Int32 × Int32 × Int32 × Int32 × Int32 × Int32 × (Nat → Int32) × (Nat → Int32) × (Nat → Int32) × (Nat → Int32) × (Nat → Int32)) :=
  o_b2 (f_X7_refused v_refusals ((-2139095050))) (fun (r23 : Int32) (v_refusals_23 : Nat → Int32) =>
  some (r23, v_refusals_23, v_solver_verdict, v_solver_taken, v_solver_left, v_solver_solvedBy, v_solver_box_cut, v_solver_box_empty, v_solver_box_low, v_solver_box_high, v_solver_lows, v_solver_highs, v_solver_point))
set_option maxHeartbeats 4000000 in
set_option maxRecDepth 100000 in
theorem w_X7_solves_B20 {p : Program} {l : Launch} {e : Env} {s : State} {m : MethodId} {args : Array Value} {below : List Frame} {meth : Method} {c : Code} {D : va_G} {cI cM : ClassId} {A : Nat → Prop} {a_this a_this_now a_this_trial a_this_history a_this_cutter a_this_solver a_this_text a_this_refusals a_this_solver_point a_this_solver_box a_this_solver_lows a_this_solver_highs a_this_now_low a_this_now_high a_this_now_kind a_this_now_x a_this_now_y a_this_now_z a_this_solver_box_low a_this_solver_box_high : Nat} {N : Nat} {v_now_unknowns : Int32} {v_now_rules : Int32} {v_now_low : Nat → Int32} {v_now_high : Nat → Int32} {v_now_x : Nat → Int32} {v_now_y : Nat → Int32} {v_now_z : Nat → Int32} {v_now_kind : Nat → Int32} {r : Int32} {o_refusals : Nat → Int32} {o_solver_verdict : Int32} {o_solver_taken : Int32} {o_solver_left : Int32} {o_solver_solvedBy : Int32} {o_solver_box_cut : Int32} {o_solver_box_empty : Int32} {o_solver_box_low : Nat → Int32} {o_solver_box_high : Nat → Int32} {o_solver_lows : Nat → Int32} {o_solver_highs : Nat → Int32} {o_solver_point : Nat → Int32} (C0 : g_cx cX7_solves (some .int) 3 RX7 wsX7_solves p s m args meth c) (hA : ∀ q, s.heap.size ≤ q → A q) (hK : va_K D vwCl (g_tys cI cM) s) : ∀ (v_refusals : Nat → Int32) (v_solver_verdict : Int32) (v_solver_taken : Int32) (v_solver_left : Int32) (v_solver_solvedBy : Int32) (v_solver_box_cut : Int32) (v_solver_box_empty : Int32) (v_solver_box_low : Nat → Int32) (v_solver_box_high : Nat → Int32) (v_solver_lows : Nat → Int32) (v_solver_highs : Nat → Int32) (v_solver_point : Nat → Int32) (H : Heap) (locs : List Loc) (ls : Array Slot), f_X7_solves_B20 N v_now_unknowns v_now_rules v_now_low v_now_high v_now_x v_now_y v_now_z v_now_kind v_refusals v_solver_verdict v_solver_taken v_solver_left v_solver_solvedBy v_solver_box_cut v_solver_box_empty v_solver_box_low v_solver_box_high v_solver_lows v_solver_highs v_solver_point = some (r, o_refusals, o_solver_verdict, o_solver_taken, o_solver_left, o_solver_solvedBy, o_solver_box_cut, o_solver_box_empty, o_solver_box_low, o_solver_box_high, o_solver_lows, o_solver_highs, o_solver_point) → va_P D vwCl (ww_X7_solves cI cM a_this a_this_now a_this_trial a_this_history a_this_cutter a_this_solver a_this_text a_this_refusals a_this_solver_point a_this_solver_box a_this_solver_lows a_this_solver_highs a_this_now_low a_this_now_high a_this_now_kind a_this_now_x a_this_now_y a_this_now_z a_this_solver_box_low a_this_solver_box_high v_refusals v_solver_verdict v_solver_taken v_solver_left v_solver_solvedBy v_now_unknowns v_now_rules v_solver_box_cut v_solver_box_empty v_now_low v_solver_box_low v_now_high v_solver_box_high v_solver_lows v_solver_highs v_solver_point v_now_x v_now_y v_now_z v_now_kind) H → va_D A (ww_X7_solves cI cM a_this a_this_now a_this_trial a_this_history a_this_cutter a_this_solver a_this_text a_this_refusals a_this_solver_point a_this_solver_box a_this_solver_lows a_this_solver_highs a_this_now_low a_this_now_high a_this_now_kind a_this_now_x a_this_now_y a_this_now_z a_this_solver_box_low a_this_solver_box_high v_refusals v_solver_verdict v_solver_taken v_solver_left v_solver_solvedBy v_now_unknowns v_now_rules v_solver_box_cut v_solver_box_empty v_now_low v_solver_box_low v_now_high v_solver_box_high v_solver_lows v_solver_highs v_solver_point v_now_x v_now_y v_now_z v_now_kind) → va_S A s.heap H locs → lv_has ls 3 [(0, .ref a_this)] → W p l e rm_X7_solves s m args below meth c H locs 0 0 (MQ below (g_QI D (g_tys cI cM) A (ww_X7_solves cI cM a_this a_this_now a_this_trial a_this_history a_this_cutter a_this_solver a_this_text a_this_refusals a_this_solver_point a_this_solver_box a_this_solver_lows a_this_solver_highs a_this_now_low a_this_now_high a_this_now_kind a_this_now_x a_this_now_y a_this_now_z a_this_solver_box_low a_this_solver_box_high o_refusals o_solver_verdict o_solver_taken o_solver_left o_solver_solvedBy v_now_unknowns v_now_rules o_solver_box_cut o_solver_box_empty v_now_low o_solver_box_low v_now_high o_solver_box_high o_solver_lows o_solver_highs o_solver_point v_now_x v_now_y v_now_z v_now_kind) r) args s 0 0 A) (F0 m 20 ls []) := by
  obtain ⟨hx, hb, hr, hml, hown, hts, hlocks⟩ := id C0
  intro v_refusals v_solver_verdict v_solver_taken v_solver_left v_solver_solvedBy v_solver_box_cut v_solver_box_empty v_solver_box_low v_solver_box_high v_solver_lows v_solver_highs v_solver_point H locs ls hf hP hD hS hl
  unfold f_X7_solves_B20 at hf
  refine lv_aload_n hx hb dX7_solves_20 rfl (lv_at hl 0 rfl) ?_
  refine lv_ldc (v := (-2139095050)) hx hb hown (hts (.constant RX7 75 (-2139095050)) (List.mem_cons_of_mem _ (List.mem_append_left _ (List.mem_append_left _ (List.mem_append_left _ (List.mem_append_left _ (List.mem_append_left _ (List.mem_of_getElem? (i := 0) rfl)))))))) dX7_solves_21 ?_
  obtain ⟨r23, v_refusals_23, hg23, hf⟩ := o_b2_go hf
  refine g_callVi (wn := (ww_X7_solves cI cM a_this a_this_now a_this_trial a_this_history a_this_cutter a_this_solver a_this_text a_this_refusals a_this_solver_point a_this_solver_box a_this_solver_lows a_this_solver_highs a_this_now_low a_this_now_high a_this_now_kind a_this_now_x a_this_now_y a_this_now_z a_this_solver_box_low a_this_solver_box_high v_refusals_23 v_solver_verdict v_solver_taken v_solver_left v_solver_solvedBy v_now_unknowns v_now_rules v_solver_box_cut v_solver_box_empty v_now_low v_solver_box_low v_now_high v_solver_box_high v_solver_lows v_solver_highs v_solver_point v_now_x v_now_y v_now_z v_now_kind)) (rest := []) ⟨hx, hb, hml, hown, hts⟩ (c_X7_refused l D cI cM a_this a_this_now a_this_trial a_this_history a_this_cutter a_this_solver a_this_text a_this_refusals H.size v_refusals hg23) (cwV 1 hts gX7_solves_X7_refused rfl rfl rfl (by decide +kernel) ⟨Nat.le_of_ble_eq_true rfl, Nat.le_of_ble_eq_true rfl⟩) hK hP hD hS hA [0, 1] [2, 3, 4, 5, 6, 7, 8, 9, 10, 11, 12, 13, 14, 15] [14, 15, 0, 1, 2, 3, 4, 5, 6, 7, 8, 9, 10, 11, 12, 13] rfl rfl rfl rfl rfl rfl (by decide) rfl rfl rfl hl.1 rfl (Nat.le_of_ble_eq_true rfl) dX7_solves_23 (fun H locs hP hD hS => ?_)
  obtain ⟨q0, y0⟩ := o_rp hf
  obtain ⟨q1, y1⟩ := o_rp y0
  obtain ⟨q2, y2⟩ := o_rp y1
  obtain ⟨q3, y3⟩ := o_rp y2
  obtain ⟨q4, y4⟩ := o_rp y3
  obtain ⟨q5, y5⟩ := o_rp y4
  obtain ⟨q6, y6⟩ := o_rp y5
  obtain ⟨q7, y7⟩ := o_rp y6
  obtain ⟨q8, y8⟩ := o_rp y7
  obtain ⟨q9, y9⟩ := o_rp y8
  obtain ⟨q10, y10⟩ := o_rp y9
  obtain ⟨q11, y11⟩ := o_rp y10
  have q12 := Option.some.inj y11
  subst q0 q1 q2 q3 q4 q5 q6 q7 q8 q9 q10 q11 q12
  exact g_iret hx hb hr hlocks hP hD hK hS dX7_solves_26
def f_X7_solves (N : Nat) (v_now_unknowns : Int32) (v_now_rules : Int32) (v_now_low : Nat → Int32) (v_now_high : Nat → Int32) (v_now_x : Nat → Int32) (v_now_y : Nat → Int32) (v_now_z : Nat → Int32) (v_now_kind : Nat → Int32) (v_refusals : Nat → Int32) (v_solver_verdict : Int32) (v_solver_taken : Int32) (v_solver_left : Int32) (v_solver_solvedBy : Int32) (v_solver_box_cut : Int32) (v_solver_box_empty : Int32) (v_solver_box_low : Nat → Int32) (v_solver_box_high : Nat → Int32) (v_solver_lows : Nat → Int32) (v_solver_highs : Nat → Int32) (v_solver_point : Nat → Int32) (x1 : Int32) (x2 : Int32) : Option (Int32 × (Nat → Int32) × Int32 × Int32 × Int32 × Int32 × Int32 × Int32 × (Nat → Int32) × (Nat → Int32) × (Nat → Int32) × (Nat → Int32) × (Nat → Int32)) :=
  if x1 < 1 then
    f_X7_solves_B20 N v_now_unknowns v_now_rules v_now_low v_now_high v_now_x v_now_y v_now_z v_now_kind v_refusals v_solver_verdict v_solver_taken v_solver_left v_solver_solvedBy v_solver_box_cut v_solver_box_empty v_solver_box_low v_solver_box_high v_solver_lows v_solver_highs v_solver_point
  else
    if 60 < x1 then
      f_X7_solves_B20 N v_now_unknowns v_now_rules v_now_low v_now_high v_now_x v_now_y v_now_z v_now_kind v_refusals v_solver_verdict v_solver_taken v_solver_left v_solver_solvedBy v_solver_box_cut v_solver_box_empty v_solver_box_low v_solver_box_high v_solver_lows v_solver_highs v_solver_point
    else
      if x2 < 0 then
        f_X7_solves_B20 N v_now_unknowns v_now_rules v_now_low v_now_high v_now_x v_now_y v_now_z v_now_kind v_refusals v_solver_verdict v_solver_taken v_solver_left v_solver_solvedBy v_solver_box_cut v_solver_box_empty v_solver_box_low v_solver_box_high v_solver_lows v_solver_highs v_solver_point
      else
        if x2 ≤ 2 then
          o_b11 (f_X5_solve N v_now_unknowns v_now_rules v_now_low v_now_high v_now_x v_now_y v_now_z v_now_kind v_solver_verdict v_solver_taken v_solver_left v_solver_solvedBy v_solver_box_cut v_solver_box_empty v_solver_box_low v_solver_box_high v_solver_lows v_solver_highs v_solver_point x1) (fun (v_solver_verdict_36 : Int32) (v_solver_taken_36 : Int32) (v_solver_left_36 : Int32) (v_solver_solvedBy_36 : Int32) (v_solver_box_cut_36 : Int32) (v_solver_box_empty_36 : Int32) (v_solver_box_low_36 : Nat → Int32) (v_solver_box_high_36 : Nat → Int32) (v_solver_lows_36 : Nat → Int32) (v_solver_highs_36 : Nat → Int32) (v_solver_point_36 : Nat → Int32) =>
          if x2 = 0 then
            some (v_solver_verdict_36, v_refusals, v_solver_verdict_36, v_solver_taken_36, v_solver_left_36, v_solver_solvedBy_36, v_solver_box_cut_36, v_solver_box_empty_36, v_solver_box_low_36, v_solver_box_high_36, v_solver_lows_36, v_solver_highs_36, v_solver_point_36)
          else
            if x2 = 1 then
              some (v_solver_taken_36, v_refusals, v_solver_verdict_36, v_solver_taken_36, v_solver_left_36, v_solver_solvedBy_36, v_solver_box_cut_36, v_solver_box_empty_36, v_solver_box_low_36, v_solver_box_high_36, v_solver_lows_36, v_solver_highs_36, v_solver_point_36)
            else
              some (v_solver_left_36, v_refusals, v_solver_verdict_36, v_solver_taken_36, v_solver_left_36, v_solver_solvedBy_36, v_solver_box_cut_36, v_solver_box_empty_36, v_solver_box_low_36, v_solver_box_high_36, v_solver_lows_36, v_solver_highs_36, v_solver_point_36))
        else
          f_X7_solves_B20 N v_now_unknowns v_now_rules v_now_low v_now_high v_now_x v_now_y v_now_z v_now_kind v_refusals v_solver_verdict v_solver_taken v_solver_left v_solver_solvedBy v_solver_box_cut v_solver_box_empty v_solver_box_low v_solver_box_high v_solver_lows v_solver_highs v_solver_point
set_option maxHeartbeats 4000000 in
set_option maxRecDepth 100000 in
theorem w_X7_solves_B0 {p : Program} {l : Launch} {e : Env} {s : State} {m : MethodId} {args : Array Value} {below : List Frame} {meth : Method} {c : Code} {D : va_G} {cI cM : ClassId} {A : Nat → Prop} {a_this a_this_now a_this_trial a_this_history a_this_cutter a_this_solver a_this_text a_this_refusals a_this_solver_point a_this_solver_box a_this_solver_lows a_this_solver_highs a_this_now_low a_this_now_high a_this_now_kind a_this_now_x a_this_now_y a_this_now_z a_this_solver_box_low a_this_solver_box_high : Nat} {N : Nat} {v_now_unknowns : Int32} {v_now_rules : Int32} {v_now_low : Nat → Int32} {v_now_high : Nat → Int32} {v_now_x : Nat → Int32} {v_now_y : Nat → Int32} {v_now_z : Nat → Int32} {v_now_kind : Nat → Int32} {r : Int32} {o_refusals : Nat → Int32} {o_solver_verdict : Int32} {o_solver_taken : Int32} {o_solver_left : Int32} {o_solver_solvedBy : Int32} {o_solver_box_cut : Int32} {o_solver_box_empty : Int32} {o_solver_box_low : Nat → Int32} {o_solver_box_high : Nat → Int32} {o_solver_lows : Nat → Int32} {o_solver_highs : Nat → Int32} {o_solver_point : Nat → Int32} (C0 : g_cx cX7_solves (some .int) 3 RX7 wsX7_solves p s m args meth c) (hA : ∀ q, s.heap.size ≤ q → A q) (hK : va_K D vwCl (g_tys cI cM) s) : ∀ (v_refusals : Nat → Int32) (v_solver_verdict : Int32) (v_solver_taken : Int32) (v_solver_left : Int32) (v_solver_solvedBy : Int32) (v_solver_box_cut : Int32) (v_solver_box_empty : Int32) (v_solver_box_low : Nat → Int32) (v_solver_box_high : Nat → Int32) (v_solver_lows : Nat → Int32) (v_solver_highs : Nat → Int32) (v_solver_point : Nat → Int32) (x1 : Int32) (x2 : Int32) (H : Heap) (locs : List Loc) (ls : Array Slot), f_X7_solves N v_now_unknowns v_now_rules v_now_low v_now_high v_now_x v_now_y v_now_z v_now_kind v_refusals v_solver_verdict v_solver_taken v_solver_left v_solver_solvedBy v_solver_box_cut v_solver_box_empty v_solver_box_low v_solver_box_high v_solver_lows v_solver_highs v_solver_point x1 x2 = some (r, o_refusals, o_solver_verdict, o_solver_taken, o_solver_left, o_solver_solvedBy, o_solver_box_cut, o_solver_box_empty, o_solver_box_low, o_solver_box_high, o_solver_lows, o_solver_highs, o_solver_point) → va_P D vwCl (ww_X7_solves cI cM a_this a_this_now a_this_trial a_this_history a_this_cutter a_this_solver a_this_text a_this_refusals a_this_solver_point a_this_solver_box a_this_solver_lows a_this_solver_highs a_this_now_low a_this_now_high a_this_now_kind a_this_now_x a_this_now_y a_this_now_z a_this_solver_box_low a_this_solver_box_high v_refusals v_solver_verdict v_solver_taken v_solver_left v_solver_solvedBy v_now_unknowns v_now_rules v_solver_box_cut v_solver_box_empty v_now_low v_solver_box_low v_now_high v_solver_box_high v_solver_lows v_solver_highs v_solver_point v_now_x v_now_y v_now_z v_now_kind) H → va_D A (ww_X7_solves cI cM a_this a_this_now a_this_trial a_this_history a_this_cutter a_this_solver a_this_text a_this_refusals a_this_solver_point a_this_solver_box a_this_solver_lows a_this_solver_highs a_this_now_low a_this_now_high a_this_now_kind a_this_now_x a_this_now_y a_this_now_z a_this_solver_box_low a_this_solver_box_high v_refusals v_solver_verdict v_solver_taken v_solver_left v_solver_solvedBy v_now_unknowns v_now_rules v_solver_box_cut v_solver_box_empty v_now_low v_solver_box_low v_now_high v_solver_box_high v_solver_lows v_solver_highs v_solver_point v_now_x v_now_y v_now_z v_now_kind) → va_S A s.heap H locs → lv_has ls 3 [(0, .ref a_this), (1, .int x1), (2, .int x2)] → W p l e rm_X7_solves s m args below meth c H locs 0 0 (MQ below (g_QI D (g_tys cI cM) A (ww_X7_solves cI cM a_this a_this_now a_this_trial a_this_history a_this_cutter a_this_solver a_this_text a_this_refusals a_this_solver_point a_this_solver_box a_this_solver_lows a_this_solver_highs a_this_now_low a_this_now_high a_this_now_kind a_this_now_x a_this_now_y a_this_now_z a_this_solver_box_low a_this_solver_box_high o_refusals o_solver_verdict o_solver_taken o_solver_left o_solver_solvedBy v_now_unknowns v_now_rules o_solver_box_cut o_solver_box_empty v_now_low o_solver_box_low v_now_high o_solver_box_high o_solver_lows o_solver_highs o_solver_point v_now_x v_now_y v_now_z v_now_kind) r) args s 0 0 A) (F0 m 0 ls []) := by
  obtain ⟨hx, hb, hr, hml, hown, hts, hlocks⟩ := id C0
  intro v_refusals v_solver_verdict v_solver_taken v_solver_left v_solver_solvedBy v_solver_box_cut v_solver_box_empty v_solver_box_low v_solver_box_high v_solver_lows v_solver_highs v_solver_point x1 x2 H locs ls hf hP hD hS hl
  unfold f_X7_solves at hf
  refine lv_iload_n hx hb dX7_solves_0 rfl (lv_at hl 1 rfl) ?_
  refine lv_iconst (v := 1) hx hb dX7_solves_1 (by decide) ?_
  refine lv_icmp_lt (tgt := 20) hx hb dX7_solves_2 (by decide) (fun c2 => ?_) (fun c2 => ?_)
  · replace hf := o_t c2 hf
    exact w_X7_solves_B20 C0 hA hK v_refusals v_solver_verdict v_solver_taken v_solver_left v_solver_solvedBy v_solver_box_cut v_solver_box_empty v_solver_box_low v_solver_box_high v_solver_lows v_solver_highs v_solver_point H locs ls hf hP hD hS (lv_sub hl [0] rfl)
  · replace hf := o_f c2 hf
    refine lv_iload_n hx hb dX7_solves_5 rfl (lv_at hl 1 rfl) ?_
    refine lv_bipush (v := 60) hx hb dX7_solves_6 (by decide) ?_
    refine lv_icmp_gt (tgt := 20) hx hb dX7_solves_8 (by decide) (fun c8 => ?_) (fun c8 => ?_)
    · replace hf := o_t c8 hf
      exact w_X7_solves_B20 C0 hA hK v_refusals v_solver_verdict v_solver_taken v_solver_left v_solver_solvedBy v_solver_box_cut v_solver_box_empty v_solver_box_low v_solver_box_high v_solver_lows v_solver_highs v_solver_point H locs ls hf hP hD hS (lv_sub hl [0] rfl)
    · replace hf := o_f c8 hf
      refine lv_iload_n hx hb dX7_solves_11 rfl (lv_at hl 2 rfl) ?_
      refine lv_if_lt (tgt := 20) hx hb dX7_solves_12 (by decide) (fun c12 => ?_) (fun c12 => ?_)
      · replace hf := o_t c12 hf
        exact w_X7_solves_B20 C0 hA hK v_refusals v_solver_verdict v_solver_taken v_solver_left v_solver_solvedBy v_solver_box_cut v_solver_box_empty v_solver_box_low v_solver_box_high v_solver_lows v_solver_highs v_solver_point H locs ls hf hP hD hS (lv_sub hl [0] rfl)
      · replace hf := o_f c12 hf
        refine lv_iload_n hx hb dX7_solves_15 rfl (lv_at hl 2 rfl) ?_
        refine lv_iconst (v := 2) hx hb dX7_solves_16 (by decide) ?_
        refine lv_icmp_le (tgt := 27) hx hb dX7_solves_17 (by decide) (fun c17 => ?_) (fun c17 => ?_)
        · replace hf := o_t c17 hf
          refine lv_aload_n hx hb dX7_solves_27 rfl (lv_at hl 0 rfl) ?_
          refine va_get (D := D) (ci := 5) (v := .ref a_this_solver) (C := RX7) (T := TX7) (N := 7) hx hb hts (fun _ h => (List.mem_cons_of_mem _ (List.mem_append_left _ (List.mem_append_left _ (List.mem_append_left _ (List.mem_append_right _ h)))))) hown hK hP 0 rfl rfl 4 (by decide) (hts (.fieldLink RX7 36 "FloatBoxes" "solver" "LFloatBoxes$Solver;") (List.mem_cons_of_mem _ (List.mem_append_left _ (List.mem_append_left _ (List.mem_append_left _ (List.mem_append_left _ (List.mem_append_left _ (List.mem_of_getElem? (i := 1) rfl)))))))) (fun _ h9 => h9) rfl dX7_solves_28 ?_
          refine lv_aload_n hx hb dX7_solves_31 rfl (lv_at hl 0 rfl) ?_
          refine va_get (D := D) (ci := 5) (v := .ref a_this_now) (C := RX7) (T := TX7) (N := 7) hx hb hts (fun _ h => (List.mem_cons_of_mem _ (List.mem_append_left _ (List.mem_append_left _ (List.mem_append_left _ (List.mem_append_right _ h)))))) hown hK hP 0 rfl rfl 0 (by decide) (hts (.fieldLink RX7 10 "FloatBoxes" "now" "LFloatBoxes$Model;") (List.mem_cons_of_mem _ (List.mem_append_left _ (List.mem_append_left _ (List.mem_append_left _ (List.mem_append_left _ (List.mem_append_left _ (List.mem_of_getElem? (i := 2) rfl)))))))) (fun _ h9 => h9) rfl dX7_solves_32 ?_
          refine lv_iload_n hx hb dX7_solves_35 rfl (lv_at hl 1 rfl) ?_
          obtain ⟨v_solver_verdict_36, v_solver_taken_36, v_solver_left_36, v_solver_solvedBy_36, v_solver_box_cut_36, v_solver_box_empty_36, v_solver_box_low_36, v_solver_box_high_36, v_solver_lows_36, v_solver_highs_36, v_solver_point_36, hg36, hf⟩ := o_b11_go hf
          refine g_callVv (wn := (ww_X7_solves cI cM a_this a_this_now a_this_trial a_this_history a_this_cutter a_this_solver a_this_text a_this_refusals a_this_solver_point a_this_solver_box a_this_solver_lows a_this_solver_highs a_this_now_low a_this_now_high a_this_now_kind a_this_now_x a_this_now_y a_this_now_z a_this_solver_box_low a_this_solver_box_high v_refusals v_solver_verdict_36 v_solver_taken_36 v_solver_left_36 v_solver_solvedBy_36 v_now_unknowns v_now_rules v_solver_box_cut_36 v_solver_box_empty_36 v_now_low v_solver_box_low_36 v_now_high v_solver_box_high_36 v_solver_lows_36 v_solver_highs_36 v_solver_point_36 v_now_x v_now_y v_now_z v_now_kind)) (rest := []) ⟨hx, hb, hml, hown, hts⟩ (c_X5_solve l D cI cM a_this_solver a_this_solver_point a_this_solver_box a_this_solver_lows a_this_solver_highs a_this_now a_this_now_low a_this_now_high a_this_now_kind a_this_now_x a_this_now_y a_this_now_z a_this_solver_box_low a_this_solver_box_high H.size v_solver_verdict v_solver_taken v_solver_left v_solver_solvedBy v_now_unknowns v_now_rules v_solver_box_cut v_solver_box_empty v_now_low v_solver_box_low v_now_high v_solver_box_high v_solver_lows v_solver_highs v_solver_point v_now_x v_now_y v_now_z v_now_kind hg36) (cwV 2 hts gX7_solves_X5_solve rfl rfl rfl (by decide +kernel) ⟨Nat.le_of_ble_eq_true rfl, Nat.le_of_ble_eq_true rfl⟩) hK hP hD hS hA [2, 3, 4, 5, 6, 7, 8, 9, 10, 11, 12, 13, 14, 15] [0, 1] [0, 1, 2, 3, 4, 5, 6, 7, 8, 9, 10, 11, 12, 13, 14, 15] rfl rfl rfl rfl rfl rfl (by decide) rfl rfl rfl hl.1 rfl (Nat.le_of_ble_eq_true rfl) dX7_solves_36 (fun H locs hP hD hS => ?_)
          refine lv_iload_n hx hb dX7_solves_39 rfl (lv_at hl 2 rfl) ?_
          refine lv_if_ne (tgt := 51) hx hb dX7_solves_40 (by decide) (fun c40 => ?_) (fun c40 => ?_)
          · replace hf := o_f c40 hf
            refine lv_iload_n hx hb dX7_solves_51 rfl (lv_at hl 2 rfl) ?_
            refine lv_iconst (v := 1) hx hb dX7_solves_52 (by decide) ?_
            refine lv_icmp_ne (tgt := 66) hx hb dX7_solves_53 (by decide) (fun c53 => ?_) (fun c53 => ?_)
            · replace hf := o_f c53 hf
              refine lv_aload_n hx hb dX7_solves_66 rfl (lv_at hl 0 rfl) ?_
              refine va_get (D := D) (ci := 5) (v := .ref a_this_solver) (C := RX7) (T := TX7) (N := 7) hx hb hts (fun _ h => (List.mem_cons_of_mem _ (List.mem_append_left _ (List.mem_append_left _ (List.mem_append_left _ (List.mem_append_right _ h)))))) hown hK hP 0 rfl rfl 4 (by decide) (hts (.fieldLink RX7 36 "FloatBoxes" "solver" "LFloatBoxes$Solver;") (List.mem_cons_of_mem _ (List.mem_append_left _ (List.mem_append_left _ (List.mem_append_left _ (List.mem_append_left _ (List.mem_append_left _ (List.mem_of_getElem? (i := 1) rfl)))))))) (fun _ h9 => h9) rfl dX7_solves_67 ?_
              refine va_get (D := D) (ci := 3) (v := .int v_solver_left_36) (C := RX5) (T := TX5) (N := 8) hx hb hts (fun _ h => (List.mem_cons_of_mem _ (List.mem_append_left _ (List.mem_append_left _ (List.mem_append_right _ h))))) hown hK hP 2 rfl rfl 2 (by decide) (hts (.fieldLink RX7 147 "FloatBoxes$Solver" "left" "I") (List.mem_cons_of_mem _ (List.mem_append_left _ (List.mem_append_left _ (List.mem_append_left _ (List.mem_append_left _ (List.mem_append_left _ (List.mem_of_getElem? (i := 5) rfl)))))))) (fun _ h9 => h9) rfl dX7_solves_70 ?_
              obtain ⟨q0, y0⟩ := o_rp hf
              obtain ⟨q1, y1⟩ := o_rp y0
              obtain ⟨q2, y2⟩ := o_rp y1
              obtain ⟨q3, y3⟩ := o_rp y2
              obtain ⟨q4, y4⟩ := o_rp y3
              obtain ⟨q5, y5⟩ := o_rp y4
              obtain ⟨q6, y6⟩ := o_rp y5
              obtain ⟨q7, y7⟩ := o_rp y6
              obtain ⟨q8, y8⟩ := o_rp y7
              obtain ⟨q9, y9⟩ := o_rp y8
              obtain ⟨q10, y10⟩ := o_rp y9
              obtain ⟨q11, y11⟩ := o_rp y10
              have q12 := Option.some.inj y11
              subst q0 q1 q2 q3 q4 q5 q6 q7 q8 q9 q10 q11 q12
              exact g_iret hx hb hr hlocks hP hD hK hS dX7_solves_73
            · replace hf := o_t c53 hf
              refine lv_aload_n hx hb dX7_solves_56 rfl (lv_at hl 0 rfl) ?_
              refine va_get (D := D) (ci := 5) (v := .ref a_this_solver) (C := RX7) (T := TX7) (N := 7) hx hb hts (fun _ h => (List.mem_cons_of_mem _ (List.mem_append_left _ (List.mem_append_left _ (List.mem_append_left _ (List.mem_append_right _ h)))))) hown hK hP 0 rfl rfl 4 (by decide) (hts (.fieldLink RX7 36 "FloatBoxes" "solver" "LFloatBoxes$Solver;") (List.mem_cons_of_mem _ (List.mem_append_left _ (List.mem_append_left _ (List.mem_append_left _ (List.mem_append_left _ (List.mem_append_left _ (List.mem_of_getElem? (i := 1) rfl)))))))) (fun _ h9 => h9) rfl dX7_solves_57 ?_
              refine va_get (D := D) (ci := 3) (v := .int v_solver_taken_36) (C := RX5) (T := TX5) (N := 8) hx hb hts (fun _ h => (List.mem_cons_of_mem _ (List.mem_append_left _ (List.mem_append_left _ (List.mem_append_right _ h))))) hown hK hP 2 rfl rfl 1 (by decide) (hts (.fieldLink RX7 144 "FloatBoxes$Solver" "taken" "I") (List.mem_cons_of_mem _ (List.mem_append_left _ (List.mem_append_left _ (List.mem_append_left _ (List.mem_append_left _ (List.mem_append_left _ (List.mem_of_getElem? (i := 4) rfl)))))))) (fun _ h9 => h9) rfl dX7_solves_60 ?_
              refine lv_goto (tgt := 73) hx hb dX7_solves_63 (by decide) ?_
              obtain ⟨q0, y0⟩ := o_rp hf
              obtain ⟨q1, y1⟩ := o_rp y0
              obtain ⟨q2, y2⟩ := o_rp y1
              obtain ⟨q3, y3⟩ := o_rp y2
              obtain ⟨q4, y4⟩ := o_rp y3
              obtain ⟨q5, y5⟩ := o_rp y4
              obtain ⟨q6, y6⟩ := o_rp y5
              obtain ⟨q7, y7⟩ := o_rp y6
              obtain ⟨q8, y8⟩ := o_rp y7
              obtain ⟨q9, y9⟩ := o_rp y8
              obtain ⟨q10, y10⟩ := o_rp y9
              obtain ⟨q11, y11⟩ := o_rp y10
              have q12 := Option.some.inj y11
              subst q0 q1 q2 q3 q4 q5 q6 q7 q8 q9 q10 q11 q12
              exact g_iret hx hb hr hlocks hP hD hK hS dX7_solves_73
          · replace hf := o_t c40 hf
            refine lv_aload_n hx hb dX7_solves_43 rfl (lv_at hl 0 rfl) ?_
            refine va_get (D := D) (ci := 5) (v := .ref a_this_solver) (C := RX7) (T := TX7) (N := 7) hx hb hts (fun _ h => (List.mem_cons_of_mem _ (List.mem_append_left _ (List.mem_append_left _ (List.mem_append_left _ (List.mem_append_right _ h)))))) hown hK hP 0 rfl rfl 4 (by decide) (hts (.fieldLink RX7 36 "FloatBoxes" "solver" "LFloatBoxes$Solver;") (List.mem_cons_of_mem _ (List.mem_append_left _ (List.mem_append_left _ (List.mem_append_left _ (List.mem_append_left _ (List.mem_append_left _ (List.mem_of_getElem? (i := 1) rfl)))))))) (fun _ h9 => h9) rfl dX7_solves_44 ?_
            refine va_get (D := D) (ci := 3) (v := .int v_solver_verdict_36) (C := RX5) (T := TX5) (N := 8) hx hb hts (fun _ h => (List.mem_cons_of_mem _ (List.mem_append_left _ (List.mem_append_left _ (List.mem_append_right _ h))))) hown hK hP 2 rfl rfl 0 (by decide) (hts (.fieldLink RX7 140 "FloatBoxes$Solver" "verdict" "I") (List.mem_cons_of_mem _ (List.mem_append_left _ (List.mem_append_left _ (List.mem_append_left _ (List.mem_append_left _ (List.mem_append_left _ (List.mem_of_getElem? (i := 3) rfl)))))))) (fun _ h9 => h9) rfl dX7_solves_47 ?_
            obtain ⟨q0, y0⟩ := o_rp hf
            obtain ⟨q1, y1⟩ := o_rp y0
            obtain ⟨q2, y2⟩ := o_rp y1
            obtain ⟨q3, y3⟩ := o_rp y2
            obtain ⟨q4, y4⟩ := o_rp y3
            obtain ⟨q5, y5⟩ := o_rp y4
            obtain ⟨q6, y6⟩ := o_rp y5
            obtain ⟨q7, y7⟩ := o_rp y6
            obtain ⟨q8, y8⟩ := o_rp y7
            obtain ⟨q9, y9⟩ := o_rp y8
            obtain ⟨q10, y10⟩ := o_rp y9
            obtain ⟨q11, y11⟩ := o_rp y10
            have q12 := Option.some.inj y11
            subst q0 q1 q2 q3 q4 q5 q6 q7 q8 q9 q10 q11 q12
            exact g_iret hx hb hr hlocks hP hD hK hS dX7_solves_50
        · replace hf := o_f c17 hf
          exact w_X7_solves_B20 C0 hA hK v_refusals v_solver_verdict v_solver_taken v_solver_left v_solver_solvedBy v_solver_box_cut v_solver_box_empty v_solver_box_low v_solver_box_high v_solver_lows v_solver_highs v_solver_point H locs ls hf hP hD hS (lv_sub hl [0] rfl)
set_option maxHeartbeats 4000000 in
set_option maxRecDepth 100000 in
theorem c_X7_solves (l : Launch) (D : va_G) (cI cM : ClassId) (a_this a_this_now a_this_trial a_this_history a_this_cutter a_this_solver a_this_text a_this_refusals a_this_solver_point a_this_solver_box a_this_solver_lows a_this_solver_highs a_this_now_low a_this_now_high a_this_now_kind a_this_now_x a_this_now_y a_this_now_z a_this_solver_box_low a_this_solver_box_high : Nat) (sz : Nat) (v_refusals : Nat → Int32) (v_solver_verdict : Int32) (v_solver_taken : Int32) (v_solver_left : Int32) (v_solver_solvedBy : Int32) (v_now_unknowns : Int32) (v_now_rules : Int32) (v_solver_box_cut : Int32) (v_solver_box_empty : Int32) (v_now_low : Nat → Int32) (v_solver_box_low : Nat → Int32) (v_now_high : Nat → Int32) (v_solver_box_high : Nat → Int32) (v_solver_lows : Nat → Int32) (v_solver_highs : Nat → Int32) (v_solver_point : Nat → Int32) (v_now_x : Nat → Int32) (v_now_y : Nat → Int32) (v_now_z : Nat → Int32) (v_now_kind : Nat → Int32) {N : Nat} {x1 : Int32} {x2 : Int32} {r : Int32} {o_refusals : Nat → Int32} {o_solver_verdict : Int32} {o_solver_taken : Int32} {o_solver_left : Int32} {o_solver_solvedBy : Int32} {o_solver_box_cut : Int32} {o_solver_box_empty : Int32} {o_solver_box_low : Nat → Int32} {o_solver_box_high : Nat → Int32} {o_solver_lows : Nat → Int32} {o_solver_highs : Nat → Int32} {o_solver_point : Nat → Int32} (hf : f_X7_solves N v_now_unknowns v_now_rules v_now_low v_now_high v_now_x v_now_y v_now_z v_now_kind v_refusals v_solver_verdict v_solver_taken v_solver_left v_solver_solvedBy v_solver_box_cut v_solver_box_empty v_solver_box_low v_solver_box_high v_solver_lows v_solver_highs v_solver_point x1 x2 = some (r, o_refusals, o_solver_verdict, o_solver_taken, o_solver_left, o_solver_solvedBy, o_solver_box_cut, o_solver_box_empty, o_solver_box_low, o_solver_box_high, o_solver_lows, o_solver_highs, o_solver_point)) : Met l yX7_solves wsX7_solves rm_X7_solves (g_Pc D (g_tys cI cM) (ww_X7_solves cI cM a_this a_this_now a_this_trial a_this_history a_this_cutter a_this_solver a_this_text a_this_refusals a_this_solver_point a_this_solver_box a_this_solver_lows a_this_solver_highs a_this_now_low a_this_now_high a_this_now_kind a_this_now_x a_this_now_y a_this_now_z a_this_solver_box_low a_this_solver_box_high v_refusals v_solver_verdict v_solver_taken v_solver_left v_solver_solvedBy v_now_unknowns v_now_rules v_solver_box_cut v_solver_box_empty v_now_low v_solver_box_low v_now_high v_solver_box_high v_solver_lows v_solver_highs v_solver_point v_now_x v_now_y v_now_z v_now_kind) sz [.ref a_this, .int x1, .int x2]) (g_QI D (g_tys cI cM) (va_A (ww_X7_solves cI cM a_this a_this_now a_this_trial a_this_history a_this_cutter a_this_solver a_this_text a_this_refusals a_this_solver_point a_this_solver_box a_this_solver_lows a_this_solver_highs a_this_now_low a_this_now_high a_this_now_kind a_this_now_x a_this_now_y a_this_now_z a_this_solver_box_low a_this_solver_box_high v_refusals v_solver_verdict v_solver_taken v_solver_left v_solver_solvedBy v_now_unknowns v_now_rules v_solver_box_cut v_solver_box_empty v_now_low v_solver_box_low v_now_high v_solver_box_high v_solver_lows v_solver_highs v_solver_point v_now_x v_now_y v_now_z v_now_kind) sz) (ww_X7_solves cI cM a_this a_this_now a_this_trial a_this_history a_this_cutter a_this_solver a_this_text a_this_refusals a_this_solver_point a_this_solver_box a_this_solver_lows a_this_solver_highs a_this_now_low a_this_now_high a_this_now_kind a_this_now_x a_this_now_y a_this_now_z a_this_solver_box_low a_this_solver_box_high o_refusals o_solver_verdict o_solver_taken o_solver_left o_solver_solvedBy v_now_unknowns v_now_rules o_solver_box_cut o_solver_box_empty v_now_low o_solver_box_low v_now_high o_solver_box_high o_solver_lows o_solver_highs o_solver_point v_now_x v_now_y v_now_z v_now_kind) r) 0 0 (va_A (ww_X7_solves cI cM a_this a_this_now a_this_trial a_this_history a_this_cutter a_this_solver a_this_text a_this_refusals a_this_solver_point a_this_solver_box a_this_solver_lows a_this_solver_highs a_this_now_low a_this_now_high a_this_now_kind a_this_now_x a_this_now_y a_this_now_z a_this_solver_box_low a_this_solver_box_high v_refusals v_solver_verdict v_solver_taken v_solver_left v_solver_solvedBy v_now_unknowns v_now_rules v_solver_box_cut v_solver_box_empty v_now_low v_solver_box_low v_now_high v_solver_box_high v_solver_lows v_solver_highs v_solver_point v_now_x v_now_y v_now_z v_now_kind) sz) := by
  refine g_met (cc := cX7_solves) (maxL := 3) (ret := (some .int)) (Qc := fun D A => g_QI D (g_tys cI cM) A (ww_X7_solves cI cM a_this a_this_now a_this_trial a_this_history a_this_cutter a_this_solver a_this_text a_this_refusals a_this_solver_point a_this_solver_box a_this_solver_lows a_this_solver_highs a_this_now_low a_this_now_high a_this_now_kind a_this_now_x a_this_now_y a_this_now_z a_this_solver_box_low a_this_solver_box_high o_refusals o_solver_verdict o_solver_taken o_solver_left o_solver_solvedBy v_now_unknowns v_now_rules o_solver_box_cut o_solver_box_empty v_now_low o_solver_box_low v_now_high o_solver_box_high o_solver_lows o_solver_highs o_solver_point v_now_x v_now_y v_now_z v_now_kind) r) (by decide) rfl ?_
  intro p e s m below meth c A C0 hA hK hP hD
  have hl := lv_entry ([.ref a_this, .int x1, .int x2]) (n := 3) (Nat.le_of_ble_eq_true rfl)
  rw [lg_entry_eq]
  generalize (lg_sl ([.ref a_this, .int x1, .int x2]) ++ List.replicate (3 - (lg_sl ([.ref a_this, .int x1, .int x2])).length) Slot.unset).toArray = ls at hl ⊢
  have hl : lv_has ls 3 [(0, .ref a_this), (1, .int x1), (2, .int x2)] := hl
  exact w_X7_solves_B0 C0 hA hK v_refusals v_solver_verdict v_solver_taken v_solver_left v_solver_solvedBy v_solver_box_cut v_solver_box_empty v_solver_box_low v_solver_box_high v_solver_lows v_solver_highs v_solver_point x1 x2 s.heap [] ls hf hP hD va_S.rf (lv_sub hl [0, 1, 2] rfl)
/-! FloatBoxes.point(II)I -/
abbrev rm_X7_point : Room := { frames := 8, cells := 0, slots := 0, locals := 213 }
abbrev ww_X7_point (cI cM : ClassId) (a_this a_this_now a_this_trial a_this_history a_this_cutter a_this_solver a_this_text a_this_refusals a_this_now_low a_this_now_high a_this_now_kind a_this_now_x a_this_now_y a_this_now_z a_this_solver_point a_this_solver_box a_this_solver_lows a_this_solver_highs a_this_solver_box_low a_this_solver_box_high : Nat) (v_refusals : Nat → Int32) (v_now_unknowns : Int32) (v_now_rules : Int32) (v_solver_verdict : Int32) (v_solver_taken : Int32) (v_solver_left : Int32) (v_solver_solvedBy : Int32) (v_solver_box_cut : Int32) (v_solver_box_empty : Int32) (v_now_low : Nat → Int32) (v_solver_box_low : Nat → Int32) (v_now_high : Nat → Int32) (v_solver_box_high : Nat → Int32) (v_solver_lows : Nat → Int32) (v_solver_highs : Nat → Int32) (v_solver_point : Nat → Int32) (v_now_x : Nat → Int32) (v_now_y : Nat → Int32) (v_now_z : Nat → Int32) (v_now_kind : Nat → Int32) : va_W := [(a_this, .inr (5, [.ref a_this_now, .ref a_this_trial, .ref a_this_history, .ref a_this_cutter, .ref a_this_solver, .ref a_this_text, .ref a_this_refusals])), (a_this_refusals, .inl (cI, 3, .inl v_refusals)), (a_this_now, .inr (2, [.int v_now_unknowns, .int v_now_rules, .ref a_this_now_low, .ref a_this_now_high, .ref a_this_now_kind, .ref a_this_now_x, .ref a_this_now_y, .ref a_this_now_z])), (a_this_solver, .inr (3, [.int v_solver_verdict, .int v_solver_taken, .int v_solver_left, .ref a_this_solver_point, .int v_solver_solvedBy, .ref a_this_solver_box, .ref a_this_solver_lows, .ref a_this_solver_highs])), (a_this_solver_box, .inr (0, [.ref a_this_solver_box_low, .ref a_this_solver_box_high, .int v_solver_box_cut, .int v_solver_box_empty])), (a_this_now_low, .inl (cI, 6, .inl v_now_low)), (a_this_solver_box_low, .inl (cI, 6, .inl v_solver_box_low)), (a_this_now_high, .inl (cI, 6, .inl v_now_high)), (a_this_solver_box_high, .inl (cI, 6, .inl v_solver_box_high)), (a_this_solver_lows, .inl (cI, 366, .inl v_solver_lows)), (a_this_solver_highs, .inl (cI, 366, .inl v_solver_highs)), (a_this_solver_point, .inl (cI, 6, .inl v_solver_point)), (a_this_now_x, .inl (cI, 6, .inl v_now_x)), (a_this_now_y, .inl (cI, 6, .inl v_now_y)), (a_this_now_z, .inl (cI, 6, .inl v_now_z)), (a_this_now_kind, .inl (cI, 6, .inl v_now_kind))]
def f_X7_point_B22 (N : Nat) (v_now_unknowns : Int32) (v_now_rules : Int32) (v_now_low : Nat → Int32) (v_now_high : Nat → Int32) (v_now_x : Nat → Int32) (v_now_y : Nat → Int32) (v_now_z : Nat → Int32) (v_now_kind : Nat → Int32) (v_refusals : Nat → Int32) (v_solver_verdict : Int32) (v_solver_taken : Int32) (v_solver_left : Int32) (v_solver_solvedBy : Int32) (v_solver_box_cut : Int32) (v_solver_box_empty : Int32) (v_solver_box_low : Nat → Int32) (v_solver_box_high : Nat → Int32) (v_solver_lows : Nat → Int32) (v_solver_highs : Nat → Int32) (v_solver_point : Nat → Int32) : Option (Int32 × (Nat → Int32) × Int32 × Int32 × Int32 × Int32 × Int32 × Int32 × (Nat → Int32) × (Nat → Int32) × (Nat → Int32) × (Nat → Int32) × (Nat → Int32)) :=
  o_b2 (f_X7_refused v_refusals ((-2139095050))) (fun (r25 : Int32) (v_refusals_25 : Nat → Int32) =>
  some (r25, v_refusals_25, v_solver_verdict, v_solver_taken, v_solver_left, v_solver_solvedBy, v_solver_box_cut, v_solver_box_empty, v_solver_box_low, v_solver_box_high, v_solver_lows, v_solver_highs, v_solver_point))
set_option maxHeartbeats 4000000 in
set_option maxRecDepth 100000 in
theorem w_X7_point_B22 {p : Program} {l : Launch} {e : Env} {s : State} {m : MethodId} {args : Array Value} {below : List Frame} {meth : Method} {c : Code} {D : va_G} {cI cM : ClassId} {A : Nat → Prop} {a_this a_this_now a_this_trial a_this_history a_this_cutter a_this_solver a_this_text a_this_refusals a_this_now_low a_this_now_high a_this_now_kind a_this_now_x a_this_now_y a_this_now_z a_this_solver_point a_this_solver_box a_this_solver_lows a_this_solver_highs a_this_solver_box_low a_this_solver_box_high : Nat} {N : Nat} {v_now_unknowns : Int32} {v_now_rules : Int32} {v_now_low : Nat → Int32} {v_now_high : Nat → Int32} {v_now_x : Nat → Int32} {v_now_y : Nat → Int32} {v_now_z : Nat → Int32} {v_now_kind : Nat → Int32} {r : Int32} {o_refusals : Nat → Int32} {o_solver_verdict : Int32} {o_solver_taken : Int32} {o_solver_left : Int32} {o_solver_solvedBy : Int32} {o_solver_box_cut : Int32} {o_solver_box_empty : Int32} {o_solver_box_low : Nat → Int32} {o_solver_box_high : Nat → Int32} {o_solver_lows : Nat → Int32} {o_solver_highs : Nat → Int32} {o_solver_point : Nat → Int32} (C0 : g_cx cX7_point (some .int) 3 RX7 wsX7_point p s m args meth c) (hA : ∀ q, s.heap.size ≤ q → A q) (hK : va_K D vwCl (g_tys cI cM) s) : ∀ (v_refusals : Nat → Int32) (v_solver_verdict : Int32) (v_solver_taken : Int32) (v_solver_left : Int32) (v_solver_solvedBy : Int32) (v_solver_box_cut : Int32) (v_solver_box_empty : Int32) (v_solver_box_low : Nat → Int32) (v_solver_box_high : Nat → Int32) (v_solver_lows : Nat → Int32) (v_solver_highs : Nat → Int32) (v_solver_point : Nat → Int32) (H : Heap) (locs : List Loc) (ls : Array Slot), f_X7_point_B22 N v_now_unknowns v_now_rules v_now_low v_now_high v_now_x v_now_y v_now_z v_now_kind v_refusals v_solver_verdict v_solver_taken v_solver_left v_solver_solvedBy v_solver_box_cut v_solver_box_empty v_solver_box_low v_solver_box_high v_solver_lows v_solver_highs v_solver_point = some (r, o_refusals, o_solver_verdict, o_solver_taken, o_solver_left, o_solver_solvedBy, o_solver_box_cut, o_solver_box_empty, o_solver_box_low, o_solver_box_high, o_solver_lows, o_solver_highs, o_solver_point) → va_P D vwCl (ww_X7_point cI cM a_this a_this_now a_this_trial a_this_history a_this_cutter a_this_solver a_this_text a_this_refusals a_this_now_low a_this_now_high a_this_now_kind a_this_now_x a_this_now_y a_this_now_z a_this_solver_point a_this_solver_box a_this_solver_lows a_this_solver_highs a_this_solver_box_low a_this_solver_box_high v_refusals v_now_unknowns v_now_rules v_solver_verdict v_solver_taken v_solver_left v_solver_solvedBy v_solver_box_cut v_solver_box_empty v_now_low v_solver_box_low v_now_high v_solver_box_high v_solver_lows v_solver_highs v_solver_point v_now_x v_now_y v_now_z v_now_kind) H → va_D A (ww_X7_point cI cM a_this a_this_now a_this_trial a_this_history a_this_cutter a_this_solver a_this_text a_this_refusals a_this_now_low a_this_now_high a_this_now_kind a_this_now_x a_this_now_y a_this_now_z a_this_solver_point a_this_solver_box a_this_solver_lows a_this_solver_highs a_this_solver_box_low a_this_solver_box_high v_refusals v_now_unknowns v_now_rules v_solver_verdict v_solver_taken v_solver_left v_solver_solvedBy v_solver_box_cut v_solver_box_empty v_now_low v_solver_box_low v_now_high v_solver_box_high v_solver_lows v_solver_highs v_solver_point v_now_x v_now_y v_now_z v_now_kind) → va_S A s.heap H locs → lv_has ls 3 [(0, .ref a_this)] → W p l e rm_X7_point s m args below meth c H locs 0 0 (MQ below (g_QI D (g_tys cI cM) A (ww_X7_point cI cM a_this a_this_now a_this_trial a_this_history a_this_cutter a_this_solver a_this_text a_this_refusals a_this_now_low a_this_now_high a_this_now_kind a_this_now_x a_this_now_y a_this_now_z a_this_solver_point a_this_solver_box a_this_solver_lows a_this_solver_highs a_this_solver_box_low a_this_solver_box_high o_refusals v_now_unknowns v_now_rules o_solver_verdict o_solver_taken o_solver_left o_solver_solvedBy o_solver_box_cut o_solver_box_empty v_now_low o_solver_box_low v_now_high o_solver_box_high o_solver_lows o_solver_highs o_solver_point v_now_x v_now_y v_now_z v_now_kind) r) args s 0 0 A) (F0 m 22 ls []) := by
  obtain ⟨hx, hb, hr, hml, hown, hts, hlocks⟩ := id C0
  intro v_refusals v_solver_verdict v_solver_taken v_solver_left v_solver_solvedBy v_solver_box_cut v_solver_box_empty v_solver_box_low v_solver_box_high v_solver_lows v_solver_highs v_solver_point H locs ls hf hP hD hS hl
  unfold f_X7_point_B22 at hf
  refine lv_aload_n hx hb dX7_point_22 rfl (lv_at hl 0 rfl) ?_
  refine lv_ldc (v := (-2139095050)) hx hb hown (hts (.constant RX7 75 (-2139095050)) (List.mem_cons_of_mem _ (List.mem_append_left _ (List.mem_append_left _ (List.mem_append_left _ (List.mem_append_left _ (List.mem_append_left _ (List.mem_of_getElem? (i := 1) rfl)))))))) dX7_point_23 ?_
  obtain ⟨r25, v_refusals_25, hg25, hf⟩ := o_b2_go hf
  refine g_callVi (wn := (ww_X7_point cI cM a_this a_this_now a_this_trial a_this_history a_this_cutter a_this_solver a_this_text a_this_refusals a_this_now_low a_this_now_high a_this_now_kind a_this_now_x a_this_now_y a_this_now_z a_this_solver_point a_this_solver_box a_this_solver_lows a_this_solver_highs a_this_solver_box_low a_this_solver_box_high v_refusals_25 v_now_unknowns v_now_rules v_solver_verdict v_solver_taken v_solver_left v_solver_solvedBy v_solver_box_cut v_solver_box_empty v_now_low v_solver_box_low v_now_high v_solver_box_high v_solver_lows v_solver_highs v_solver_point v_now_x v_now_y v_now_z v_now_kind)) (rest := []) ⟨hx, hb, hml, hown, hts⟩ (c_X7_refused l D cI cM a_this a_this_now a_this_trial a_this_history a_this_cutter a_this_solver a_this_text a_this_refusals H.size v_refusals hg25) (cwV 1 hts gX7_point_X7_refused rfl rfl rfl (by decide +kernel) ⟨Nat.le_of_ble_eq_true rfl, Nat.le_of_ble_eq_true rfl⟩) hK hP hD hS hA [0, 1] [2, 3, 4, 5, 6, 7, 8, 9, 10, 11, 12, 13, 14, 15] [14, 15, 0, 1, 2, 3, 4, 5, 6, 7, 8, 9, 10, 11, 12, 13] rfl rfl rfl rfl rfl rfl (by decide) rfl rfl rfl hl.1 rfl (Nat.le_of_ble_eq_true rfl) dX7_point_25 (fun H locs hP hD hS => ?_)
  obtain ⟨q0, y0⟩ := o_rp hf
  obtain ⟨q1, y1⟩ := o_rp y0
  obtain ⟨q2, y2⟩ := o_rp y1
  obtain ⟨q3, y3⟩ := o_rp y2
  obtain ⟨q4, y4⟩ := o_rp y3
  obtain ⟨q5, y5⟩ := o_rp y4
  obtain ⟨q6, y6⟩ := o_rp y5
  obtain ⟨q7, y7⟩ := o_rp y6
  obtain ⟨q8, y8⟩ := o_rp y7
  obtain ⟨q9, y9⟩ := o_rp y8
  obtain ⟨q10, y10⟩ := o_rp y9
  obtain ⟨q11, y11⟩ := o_rp y10
  have q12 := Option.some.inj y11
  subst q0 q1 q2 q3 q4 q5 q6 q7 q8 q9 q10 q11 q12
  exact g_iret hx hb hr hlocks hP hD hK hS dX7_point_28
def f_X7_point (N : Nat) (v_now_unknowns : Int32) (v_now_rules : Int32) (v_now_low : Nat → Int32) (v_now_high : Nat → Int32) (v_now_x : Nat → Int32) (v_now_y : Nat → Int32) (v_now_z : Nat → Int32) (v_now_kind : Nat → Int32) (v_refusals : Nat → Int32) (v_solver_verdict : Int32) (v_solver_taken : Int32) (v_solver_left : Int32) (v_solver_solvedBy : Int32) (v_solver_box_cut : Int32) (v_solver_box_empty : Int32) (v_solver_box_low : Nat → Int32) (v_solver_box_high : Nat → Int32) (v_solver_lows : Nat → Int32) (v_solver_highs : Nat → Int32) (v_solver_point : Nat → Int32) (x1 : Int32) (x2 : Int32) : Option (Int32 × (Nat → Int32) × Int32 × Int32 × Int32 × Int32 × Int32 × Int32 × (Nat → Int32) × (Nat → Int32) × (Nat → Int32) × (Nat → Int32) × (Nat → Int32)) :=
  if x1 < 1 then
    f_X7_point_B22 N v_now_unknowns v_now_rules v_now_low v_now_high v_now_x v_now_y v_now_z v_now_kind v_refusals v_solver_verdict v_solver_taken v_solver_left v_solver_solvedBy v_solver_box_cut v_solver_box_empty v_solver_box_low v_solver_box_high v_solver_lows v_solver_highs v_solver_point
  else
    if 60 < x1 then
      f_X7_point_B22 N v_now_unknowns v_now_rules v_now_low v_now_high v_now_x v_now_y v_now_z v_now_kind v_refusals v_solver_verdict v_solver_taken v_solver_left v_solver_solvedBy v_solver_box_cut v_solver_box_empty v_solver_box_low v_solver_box_high v_solver_lows v_solver_highs v_solver_point
    else
      o_b1 (f_X3_hasUnknown v_now_unknowns x2) (fun (r16 : Int32) =>
      if r16 = 0 then
        f_X7_point_B22 N v_now_unknowns v_now_rules v_now_low v_now_high v_now_x v_now_y v_now_z v_now_kind v_refusals v_solver_verdict v_solver_taken v_solver_left v_solver_solvedBy v_solver_box_cut v_solver_box_empty v_solver_box_low v_solver_box_high v_solver_lows v_solver_highs v_solver_point
      else
        o_b11 (f_X5_solve N v_now_unknowns v_now_rules v_now_low v_now_high v_now_x v_now_y v_now_z v_now_kind v_solver_verdict v_solver_taken v_solver_left v_solver_solvedBy v_solver_box_cut v_solver_box_empty v_solver_box_low v_solver_box_high v_solver_lows v_solver_highs v_solver_point x1) (fun (v_solver_verdict_38 : Int32) (v_solver_taken_38 : Int32) (v_solver_left_38 : Int32) (v_solver_solvedBy_38 : Int32) (v_solver_box_cut_38 : Int32) (v_solver_box_empty_38 : Int32) (v_solver_box_low_38 : Nat → Int32) (v_solver_box_high_38 : Nat → Int32) (v_solver_lows_38 : Nat → Int32) (v_solver_highs_38 : Nat → Int32) (v_solver_point_38 : Nat → Int32) =>
        if v_solver_verdict_38 = 0 then
          o_in x2 6 (
          some (v_solver_point_38 x2.toNatClampNeg, v_refusals, v_solver_verdict_38, v_solver_taken_38, v_solver_left_38, v_solver_solvedBy_38, v_solver_box_cut_38, v_solver_box_empty_38, v_solver_box_low_38, v_solver_box_high_38, v_solver_lows_38, v_solver_highs_38, v_solver_point_38))
        else
          o_b2 (f_X7_refused v_refusals ((-2139095051))) (fun (r66 : Int32) (v_refusals_66 : Nat → Int32) =>
          some (r66, v_refusals_66, v_solver_verdict_38, v_solver_taken_38, v_solver_left_38, v_solver_solvedBy_38, v_solver_box_cut_38, v_solver_box_empty_38, v_solver_box_low_38, v_solver_box_high_38, v_solver_lows_38, v_solver_highs_38, v_solver_point_38))))
set_option maxHeartbeats 4000000 in
set_option maxRecDepth 100000 in
theorem w_X7_point_B0 {p : Program} {l : Launch} {e : Env} {s : State} {m : MethodId} {args : Array Value} {below : List Frame} {meth : Method} {c : Code} {D : va_G} {cI cM : ClassId} {A : Nat → Prop} {a_this a_this_now a_this_trial a_this_history a_this_cutter a_this_solver a_this_text a_this_refusals a_this_now_low a_this_now_high a_this_now_kind a_this_now_x a_this_now_y a_this_now_z a_this_solver_point a_this_solver_box a_this_solver_lows a_this_solver_highs a_this_solver_box_low a_this_solver_box_high : Nat} {N : Nat} {v_now_unknowns : Int32} {v_now_rules : Int32} {v_now_low : Nat → Int32} {v_now_high : Nat → Int32} {v_now_x : Nat → Int32} {v_now_y : Nat → Int32} {v_now_z : Nat → Int32} {v_now_kind : Nat → Int32} {r : Int32} {o_refusals : Nat → Int32} {o_solver_verdict : Int32} {o_solver_taken : Int32} {o_solver_left : Int32} {o_solver_solvedBy : Int32} {o_solver_box_cut : Int32} {o_solver_box_empty : Int32} {o_solver_box_low : Nat → Int32} {o_solver_box_high : Nat → Int32} {o_solver_lows : Nat → Int32} {o_solver_highs : Nat → Int32} {o_solver_point : Nat → Int32} (C0 : g_cx cX7_point (some .int) 3 RX7 wsX7_point p s m args meth c) (hA : ∀ q, s.heap.size ≤ q → A q) (hK : va_K D vwCl (g_tys cI cM) s) : ∀ (v_refusals : Nat → Int32) (v_solver_verdict : Int32) (v_solver_taken : Int32) (v_solver_left : Int32) (v_solver_solvedBy : Int32) (v_solver_box_cut : Int32) (v_solver_box_empty : Int32) (v_solver_box_low : Nat → Int32) (v_solver_box_high : Nat → Int32) (v_solver_lows : Nat → Int32) (v_solver_highs : Nat → Int32) (v_solver_point : Nat → Int32) (x1 : Int32) (x2 : Int32) (H : Heap) (locs : List Loc) (ls : Array Slot), f_X7_point N v_now_unknowns v_now_rules v_now_low v_now_high v_now_x v_now_y v_now_z v_now_kind v_refusals v_solver_verdict v_solver_taken v_solver_left v_solver_solvedBy v_solver_box_cut v_solver_box_empty v_solver_box_low v_solver_box_high v_solver_lows v_solver_highs v_solver_point x1 x2 = some (r, o_refusals, o_solver_verdict, o_solver_taken, o_solver_left, o_solver_solvedBy, o_solver_box_cut, o_solver_box_empty, o_solver_box_low, o_solver_box_high, o_solver_lows, o_solver_highs, o_solver_point) → va_P D vwCl (ww_X7_point cI cM a_this a_this_now a_this_trial a_this_history a_this_cutter a_this_solver a_this_text a_this_refusals a_this_now_low a_this_now_high a_this_now_kind a_this_now_x a_this_now_y a_this_now_z a_this_solver_point a_this_solver_box a_this_solver_lows a_this_solver_highs a_this_solver_box_low a_this_solver_box_high v_refusals v_now_unknowns v_now_rules v_solver_verdict v_solver_taken v_solver_left v_solver_solvedBy v_solver_box_cut v_solver_box_empty v_now_low v_solver_box_low v_now_high v_solver_box_high v_solver_lows v_solver_highs v_solver_point v_now_x v_now_y v_now_z v_now_kind) H → va_D A (ww_X7_point cI cM a_this a_this_now a_this_trial a_this_history a_this_cutter a_this_solver a_this_text a_this_refusals a_this_now_low a_this_now_high a_this_now_kind a_this_now_x a_this_now_y a_this_now_z a_this_solver_point a_this_solver_box a_this_solver_lows a_this_solver_highs a_this_solver_box_low a_this_solver_box_high v_refusals v_now_unknowns v_now_rules v_solver_verdict v_solver_taken v_solver_left v_solver_solvedBy v_solver_box_cut v_solver_box_empty v_now_low v_solver_box_low v_now_high v_solver_box_high v_solver_lows v_solver_highs v_solver_point v_now_x v_now_y v_now_z v_now_kind) → va_S A s.heap H locs → lv_has ls 3 [(0, .ref a_this), (1, .int x1), (2, .int x2)] → W p l e rm_X7_point s m args below meth c H locs 0 0 (MQ below (g_QI D (g_tys cI cM) A (ww_X7_point cI cM a_this a_this_now a_this_trial a_this_history a_this_cutter a_this_solver a_this_text a_this_refusals a_this_now_low a_this_now_high a_this_now_kind a_this_now_x a_this_now_y a_this_now_z a_this_solver_point a_this_solver_box a_this_solver_lows a_this_solver_highs a_this_solver_box_low a_this_solver_box_high o_refusals v_now_unknowns v_now_rules o_solver_verdict o_solver_taken o_solver_left o_solver_solvedBy o_solver_box_cut o_solver_box_empty v_now_low o_solver_box_low v_now_high o_solver_box_high o_solver_lows o_solver_highs o_solver_point v_now_x v_now_y v_now_z v_now_kind) r) args s 0 0 A) (F0 m 0 ls []) := by
  obtain ⟨hx, hb, hr, hml, hown, hts, hlocks⟩ := id C0
  intro v_refusals v_solver_verdict v_solver_taken v_solver_left v_solver_solvedBy v_solver_box_cut v_solver_box_empty v_solver_box_low v_solver_box_high v_solver_lows v_solver_highs v_solver_point x1 x2 H locs ls hf hP hD hS hl
  unfold f_X7_point at hf
  refine lv_iload_n hx hb dX7_point_0 rfl (lv_at hl 1 rfl) ?_
  refine lv_iconst (v := 1) hx hb dX7_point_1 (by decide) ?_
  refine lv_icmp_lt (tgt := 22) hx hb dX7_point_2 (by decide) (fun c2 => ?_) (fun c2 => ?_)
  · replace hf := o_t c2 hf
    exact w_X7_point_B22 C0 hA hK v_refusals v_solver_verdict v_solver_taken v_solver_left v_solver_solvedBy v_solver_box_cut v_solver_box_empty v_solver_box_low v_solver_box_high v_solver_lows v_solver_highs v_solver_point H locs ls hf hP hD hS (lv_sub hl [0] rfl)
  · replace hf := o_f c2 hf
    refine lv_iload_n hx hb dX7_point_5 rfl (lv_at hl 1 rfl) ?_
    refine lv_bipush (v := 60) hx hb dX7_point_6 (by decide) ?_
    refine lv_icmp_gt (tgt := 22) hx hb dX7_point_8 (by decide) (fun c8 => ?_) (fun c8 => ?_)
    · replace hf := o_t c8 hf
      exact w_X7_point_B22 C0 hA hK v_refusals v_solver_verdict v_solver_taken v_solver_left v_solver_solvedBy v_solver_box_cut v_solver_box_empty v_solver_box_low v_solver_box_high v_solver_lows v_solver_highs v_solver_point H locs ls hf hP hD hS (lv_sub hl [0] rfl)
    · replace hf := o_f c8 hf
      refine lv_aload_n hx hb dX7_point_11 rfl (lv_at hl 0 rfl) ?_
      refine va_get (D := D) (ci := 5) (v := .ref a_this_now) (C := RX7) (T := TX7) (N := 7) hx hb hts (fun _ h => (List.mem_cons_of_mem _ (List.mem_append_left _ (List.mem_append_left _ (List.mem_append_left _ (List.mem_append_right _ h)))))) hown hK hP 0 rfl rfl 0 (by decide) (hts (.fieldLink RX7 10 "FloatBoxes" "now" "LFloatBoxes$Model;") (List.mem_cons_of_mem _ (List.mem_append_left _ (List.mem_append_left _ (List.mem_append_left _ (List.mem_append_left _ (List.mem_append_left _ (List.mem_of_getElem? (i := 0) rfl)))))))) (fun _ h9 => h9) rfl dX7_point_12 ?_
      refine lv_iload_n hx hb dX7_point_15 rfl (lv_at hl 2 rfl) ?_
      obtain ⟨r16, hg16, hf⟩ := o_b1_go hf
      refine g_callVi (wn := (ww_X7_point cI cM a_this a_this_now a_this_trial a_this_history a_this_cutter a_this_solver a_this_text a_this_refusals a_this_now_low a_this_now_high a_this_now_kind a_this_now_x a_this_now_y a_this_now_z a_this_solver_point a_this_solver_box a_this_solver_lows a_this_solver_highs a_this_solver_box_low a_this_solver_box_high v_refusals v_now_unknowns v_now_rules v_solver_verdict v_solver_taken v_solver_left v_solver_solvedBy v_solver_box_cut v_solver_box_empty v_now_low v_solver_box_low v_now_high v_solver_box_high v_solver_lows v_solver_highs v_solver_point v_now_x v_now_y v_now_z v_now_kind)) (rest := []) ⟨hx, hb, hml, hown, hts⟩ (c_X3_hasUnknown l D cI cM a_this_now a_this_now_low a_this_now_high a_this_now_kind a_this_now_x a_this_now_y a_this_now_z H.size v_now_unknowns v_now_rules hg16) (cwV 1 hts gX7_point_X3_hasUnknown rfl rfl rfl (by decide +kernel) ⟨Nat.le_of_ble_eq_true rfl, Nat.le_of_ble_eq_true rfl⟩) hK hP hD hS hA [2] [0, 1, 3, 4, 5, 6, 7, 8, 9, 10, 11, 12, 13, 14, 15] [0, 1, 15, 2, 3, 4, 5, 6, 7, 8, 9, 10, 11, 12, 13, 14] rfl rfl rfl rfl rfl rfl (by decide) rfl rfl rfl hl.1 rfl (Nat.le_of_ble_eq_true rfl) dX7_point_16 (fun H locs hP hD hS => ?_)
      refine lv_if_ne (tgt := 29) hx hb dX7_point_19 (by decide) (fun c19 => ?_) (fun c19 => ?_)
      · replace hf := o_f c19 hf
        refine lv_aload_n hx hb dX7_point_29 rfl (lv_at hl 0 rfl) ?_
        refine va_get (D := D) (ci := 5) (v := .ref a_this_solver) (C := RX7) (T := TX7) (N := 7) hx hb hts (fun _ h => (List.mem_cons_of_mem _ (List.mem_append_left _ (List.mem_append_left _ (List.mem_append_left _ (List.mem_append_right _ h)))))) hown hK hP 0 rfl rfl 4 (by decide) (hts (.fieldLink RX7 36 "FloatBoxes" "solver" "LFloatBoxes$Solver;") (List.mem_cons_of_mem _ (List.mem_append_left _ (List.mem_append_left _ (List.mem_append_left _ (List.mem_append_left _ (List.mem_append_left _ (List.mem_of_getElem? (i := 2) rfl)))))))) (fun _ h9 => h9) rfl dX7_point_30 ?_
        refine lv_aload_n hx hb dX7_point_33 rfl (lv_at hl 0 rfl) ?_
        refine va_get (D := D) (ci := 5) (v := .ref a_this_now) (C := RX7) (T := TX7) (N := 7) hx hb hts (fun _ h => (List.mem_cons_of_mem _ (List.mem_append_left _ (List.mem_append_left _ (List.mem_append_left _ (List.mem_append_right _ h)))))) hown hK hP 0 rfl rfl 0 (by decide) (hts (.fieldLink RX7 10 "FloatBoxes" "now" "LFloatBoxes$Model;") (List.mem_cons_of_mem _ (List.mem_append_left _ (List.mem_append_left _ (List.mem_append_left _ (List.mem_append_left _ (List.mem_append_left _ (List.mem_of_getElem? (i := 0) rfl)))))))) (fun _ h9 => h9) rfl dX7_point_34 ?_
        refine lv_iload_n hx hb dX7_point_37 rfl (lv_at hl 1 rfl) ?_
        obtain ⟨v_solver_verdict_38, v_solver_taken_38, v_solver_left_38, v_solver_solvedBy_38, v_solver_box_cut_38, v_solver_box_empty_38, v_solver_box_low_38, v_solver_box_high_38, v_solver_lows_38, v_solver_highs_38, v_solver_point_38, hg38, hf⟩ := o_b11_go hf
        refine g_callVv (wn := (ww_X7_point cI cM a_this a_this_now a_this_trial a_this_history a_this_cutter a_this_solver a_this_text a_this_refusals a_this_now_low a_this_now_high a_this_now_kind a_this_now_x a_this_now_y a_this_now_z a_this_solver_point a_this_solver_box a_this_solver_lows a_this_solver_highs a_this_solver_box_low a_this_solver_box_high v_refusals v_now_unknowns v_now_rules v_solver_verdict_38 v_solver_taken_38 v_solver_left_38 v_solver_solvedBy_38 v_solver_box_cut_38 v_solver_box_empty_38 v_now_low v_solver_box_low_38 v_now_high v_solver_box_high_38 v_solver_lows_38 v_solver_highs_38 v_solver_point_38 v_now_x v_now_y v_now_z v_now_kind)) (rest := []) ⟨hx, hb, hml, hown, hts⟩ (c_X5_solve l D cI cM a_this_solver a_this_solver_point a_this_solver_box a_this_solver_lows a_this_solver_highs a_this_now a_this_now_low a_this_now_high a_this_now_kind a_this_now_x a_this_now_y a_this_now_z a_this_solver_box_low a_this_solver_box_high H.size v_solver_verdict v_solver_taken v_solver_left v_solver_solvedBy v_now_unknowns v_now_rules v_solver_box_cut v_solver_box_empty v_now_low v_solver_box_low v_now_high v_solver_box_high v_solver_lows v_solver_highs v_solver_point v_now_x v_now_y v_now_z v_now_kind hg38) (cwV 2 hts gX7_point_X5_solve rfl rfl rfl (by decide +kernel) ⟨Nat.le_of_ble_eq_true rfl, Nat.le_of_ble_eq_true rfl⟩) hK hP hD hS hA [3, 2, 4, 5, 6, 7, 8, 9, 10, 11, 12, 13, 14, 15] [0, 1] [0, 1, 3, 2, 4, 5, 6, 7, 8, 9, 10, 11, 12, 13, 14, 15] rfl rfl rfl rfl rfl rfl (by decide) rfl rfl rfl hl.1 rfl (Nat.le_of_ble_eq_true rfl) dX7_point_38 (fun H locs hP hD hS => ?_)
        refine lv_aload_n hx hb dX7_point_41 rfl (lv_at hl 0 rfl) ?_
        refine va_get (D := D) (ci := 5) (v := .ref a_this_solver) (C := RX7) (T := TX7) (N := 7) hx hb hts (fun _ h => (List.mem_cons_of_mem _ (List.mem_append_left _ (List.mem_append_left _ (List.mem_append_left _ (List.mem_append_right _ h)))))) hown hK hP 0 rfl rfl 4 (by decide) (hts (.fieldLink RX7 36 "FloatBoxes" "solver" "LFloatBoxes$Solver;") (List.mem_cons_of_mem _ (List.mem_append_left _ (List.mem_append_left _ (List.mem_append_left _ (List.mem_append_left _ (List.mem_append_left _ (List.mem_of_getElem? (i := 2) rfl)))))))) (fun _ h9 => h9) rfl dX7_point_42 ?_
        refine va_get (D := D) (ci := 3) (v := .int v_solver_verdict_38) (C := RX5) (T := TX5) (N := 8) hx hb hts (fun _ h => (List.mem_cons_of_mem _ (List.mem_append_left _ (List.mem_append_left _ (List.mem_append_right _ h))))) hown hK hP 3 rfl rfl 0 (by decide) (hts (.fieldLink RX7 140 "FloatBoxes$Solver" "verdict" "I") (List.mem_cons_of_mem _ (List.mem_append_left _ (List.mem_append_left _ (List.mem_append_left _ (List.mem_append_left _ (List.mem_append_left _ (List.mem_of_getElem? (i := 3) rfl)))))))) (fun _ h9 => h9) rfl dX7_point_45 ?_
        refine lv_if_ne (tgt := 63) hx hb dX7_point_48 (by decide) (fun c48 => ?_) (fun c48 => ?_)
        · replace hf := o_f c48 hf
          refine lv_aload_n hx hb dX7_point_63 rfl (lv_at hl 0 rfl) ?_
          refine lv_ldc (v := (-2139095051)) hx hb hown (hts (.constant RX7 153 (-2139095051)) (List.mem_cons_of_mem _ (List.mem_append_left _ (List.mem_append_left _ (List.mem_append_left _ (List.mem_append_left _ (List.mem_append_left _ (List.mem_of_getElem? (i := 5) rfl)))))))) dX7_point_64 ?_
          obtain ⟨r66, v_refusals_66, hg66, hf⟩ := o_b2_go hf
          refine g_callVi (wn := (ww_X7_point cI cM a_this a_this_now a_this_trial a_this_history a_this_cutter a_this_solver a_this_text a_this_refusals a_this_now_low a_this_now_high a_this_now_kind a_this_now_x a_this_now_y a_this_now_z a_this_solver_point a_this_solver_box a_this_solver_lows a_this_solver_highs a_this_solver_box_low a_this_solver_box_high v_refusals_66 v_now_unknowns v_now_rules v_solver_verdict_38 v_solver_taken_38 v_solver_left_38 v_solver_solvedBy_38 v_solver_box_cut_38 v_solver_box_empty_38 v_now_low v_solver_box_low_38 v_now_high v_solver_box_high_38 v_solver_lows_38 v_solver_highs_38 v_solver_point_38 v_now_x v_now_y v_now_z v_now_kind)) (rest := []) ⟨hx, hb, hml, hown, hts⟩ (c_X7_refused l D cI cM a_this a_this_now a_this_trial a_this_history a_this_cutter a_this_solver a_this_text a_this_refusals H.size v_refusals hg66) (cwV 1 hts gX7_point_X7_refused rfl rfl rfl (by decide +kernel) ⟨Nat.le_of_ble_eq_true rfl, Nat.le_of_ble_eq_true rfl⟩) hK hP hD hS hA [0, 1] [2, 3, 4, 5, 6, 7, 8, 9, 10, 11, 12, 13, 14, 15] [14, 15, 0, 1, 2, 3, 4, 5, 6, 7, 8, 9, 10, 11, 12, 13] rfl rfl rfl rfl rfl rfl (by decide) rfl rfl rfl hl.1 rfl (Nat.le_of_ble_eq_true rfl) dX7_point_66 (fun H locs hP hD hS => ?_)
          obtain ⟨q0, y0⟩ := o_rp hf
          obtain ⟨q1, y1⟩ := o_rp y0
          obtain ⟨q2, y2⟩ := o_rp y1
          obtain ⟨q3, y3⟩ := o_rp y2
          obtain ⟨q4, y4⟩ := o_rp y3
          obtain ⟨q5, y5⟩ := o_rp y4
          obtain ⟨q6, y6⟩ := o_rp y5
          obtain ⟨q7, y7⟩ := o_rp y6
          obtain ⟨q8, y8⟩ := o_rp y7
          obtain ⟨q9, y9⟩ := o_rp y8
          obtain ⟨q10, y10⟩ := o_rp y9
          obtain ⟨q11, y11⟩ := o_rp y10
          have q12 := Option.some.inj y11
          subst q0 q1 q2 q3 q4 q5 q6 q7 q8 q9 q10 q11 q12
          exact g_iret hx hb hr hlocks hP hD hK hS dX7_point_69
        · replace hf := o_t c48 hf
          refine lv_aload_n hx hb dX7_point_51 rfl (lv_at hl 0 rfl) ?_
          refine va_get (D := D) (ci := 5) (v := .ref a_this_solver) (C := RX7) (T := TX7) (N := 7) hx hb hts (fun _ h => (List.mem_cons_of_mem _ (List.mem_append_left _ (List.mem_append_left _ (List.mem_append_left _ (List.mem_append_right _ h)))))) hown hK hP 0 rfl rfl 4 (by decide) (hts (.fieldLink RX7 36 "FloatBoxes" "solver" "LFloatBoxes$Solver;") (List.mem_cons_of_mem _ (List.mem_append_left _ (List.mem_append_left _ (List.mem_append_left _ (List.mem_append_left _ (List.mem_append_left _ (List.mem_of_getElem? (i := 2) rfl)))))))) (fun _ h9 => h9) rfl dX7_point_52 ?_
          refine va_get (D := D) (ci := 3) (v := .ref a_this_solver_point) (C := RX5) (T := TX5) (N := 8) hx hb hts (fun _ h => (List.mem_cons_of_mem _ (List.mem_append_left _ (List.mem_append_left _ (List.mem_append_right _ h))))) hown hK hP 3 rfl rfl 3 (by decide) (hts (.fieldLink RX7 150 "FloatBoxes$Solver" "point" "[I") (List.mem_cons_of_mem _ (List.mem_append_left _ (List.mem_append_left _ (List.mem_append_left _ (List.mem_append_left _ (List.mem_append_left _ (List.mem_of_getElem? (i := 4) rfl)))))))) (fun _ h9 => h9) rfl dX7_point_55 ?_
          refine lv_iload_n hx hb dX7_point_58 rfl (lv_at hl 2 rfl) ?_
          obtain ⟨h59, hf⟩ := o_in_go hf
          refine va_iald hx hb hK hP 11 0 rfl rfl h59 dX7_point_59 ?_
          refine lv_goto (tgt := 69) hx hb dX7_point_60 (by decide) ?_
          obtain ⟨q0, y0⟩ := o_rp hf
          obtain ⟨q1, y1⟩ := o_rp y0
          obtain ⟨q2, y2⟩ := o_rp y1
          obtain ⟨q3, y3⟩ := o_rp y2
          obtain ⟨q4, y4⟩ := o_rp y3
          obtain ⟨q5, y5⟩ := o_rp y4
          obtain ⟨q6, y6⟩ := o_rp y5
          obtain ⟨q7, y7⟩ := o_rp y6
          obtain ⟨q8, y8⟩ := o_rp y7
          obtain ⟨q9, y9⟩ := o_rp y8
          obtain ⟨q10, y10⟩ := o_rp y9
          obtain ⟨q11, y11⟩ := o_rp y10
          have q12 := Option.some.inj y11
          subst q0 q1 q2 q3 q4 q5 q6 q7 q8 q9 q10 q11 q12
          exact g_iret hx hb hr hlocks hP hD hK hS dX7_point_69
      · replace hf := o_t c19 hf
        exact w_X7_point_B22 C0 hA hK v_refusals v_solver_verdict v_solver_taken v_solver_left v_solver_solvedBy v_solver_box_cut v_solver_box_empty v_solver_box_low v_solver_box_high v_solver_lows v_solver_highs v_solver_point H locs ls hf hP hD hS (lv_sub hl [0] rfl)
set_option maxHeartbeats 4000000 in
set_option maxRecDepth 100000 in
theorem c_X7_point (l : Launch) (D : va_G) (cI cM : ClassId) (a_this a_this_now a_this_trial a_this_history a_this_cutter a_this_solver a_this_text a_this_refusals a_this_now_low a_this_now_high a_this_now_kind a_this_now_x a_this_now_y a_this_now_z a_this_solver_point a_this_solver_box a_this_solver_lows a_this_solver_highs a_this_solver_box_low a_this_solver_box_high : Nat) (sz : Nat) (v_refusals : Nat → Int32) (v_now_unknowns : Int32) (v_now_rules : Int32) (v_solver_verdict : Int32) (v_solver_taken : Int32) (v_solver_left : Int32) (v_solver_solvedBy : Int32) (v_solver_box_cut : Int32) (v_solver_box_empty : Int32) (v_now_low : Nat → Int32) (v_solver_box_low : Nat → Int32) (v_now_high : Nat → Int32) (v_solver_box_high : Nat → Int32) (v_solver_lows : Nat → Int32) (v_solver_highs : Nat → Int32) (v_solver_point : Nat → Int32) (v_now_x : Nat → Int32) (v_now_y : Nat → Int32) (v_now_z : Nat → Int32) (v_now_kind : Nat → Int32) {N : Nat} {x1 : Int32} {x2 : Int32} {r : Int32} {o_refusals : Nat → Int32} {o_solver_verdict : Int32} {o_solver_taken : Int32} {o_solver_left : Int32} {o_solver_solvedBy : Int32} {o_solver_box_cut : Int32} {o_solver_box_empty : Int32} {o_solver_box_low : Nat → Int32} {o_solver_box_high : Nat → Int32} {o_solver_lows : Nat → Int32} {o_solver_highs : Nat → Int32} {o_solver_point : Nat → Int32} (hf : f_X7_point N v_now_unknowns v_now_rules v_now_low v_now_high v_now_x v_now_y v_now_z v_now_kind v_refusals v_solver_verdict v_solver_taken v_solver_left v_solver_solvedBy v_solver_box_cut v_solver_box_empty v_solver_box_low v_solver_box_high v_solver_lows v_solver_highs v_solver_point x1 x2 = some (r, o_refusals, o_solver_verdict, o_solver_taken, o_solver_left, o_solver_solvedBy, o_solver_box_cut, o_solver_box_empty, o_solver_box_low, o_solver_box_high, o_solver_lows, o_solver_highs, o_solver_point)) : Met l yX7_point wsX7_point rm_X7_point (g_Pc D (g_tys cI cM) (ww_X7_point cI cM a_this a_this_now a_this_trial a_this_history a_this_cutter a_this_solver a_this_text a_this_refusals a_this_now_low a_this_now_high a_this_now_kind a_this_now_x a_this_now_y a_this_now_z a_this_solver_point a_this_solver_box a_this_solver_lows a_this_solver_highs a_this_solver_box_low a_this_solver_box_high v_refusals v_now_unknowns v_now_rules v_solver_verdict v_solver_taken v_solver_left v_solver_solvedBy v_solver_box_cut v_solver_box_empty v_now_low v_solver_box_low v_now_high v_solver_box_high v_solver_lows v_solver_highs v_solver_point v_now_x v_now_y v_now_z v_now_kind) sz [.ref a_this, .int x1, .int x2]) (g_QI D (g_tys cI cM) (va_A (ww_X7_point cI cM a_this a_this_now a_this_trial a_this_history a_this_cutter a_this_solver a_this_text a_this_refusals a_this_now_low a_this_now_high a_this_now_kind a_this_now_x a_this_now_y a_this_now_z a_this_solver_point a_this_solver_box a_this_solver_lows a_this_solver_highs a_this_solver_box_low a_this_solver_box_high v_refusals v_now_unknowns v_now_rules v_solver_verdict v_solver_taken v_solver_left v_solver_solvedBy v_solver_box_cut v_solver_box_empty v_now_low v_solver_box_low v_now_high v_solver_box_high v_solver_lows v_solver_highs v_solver_point v_now_x v_now_y v_now_z v_now_kind) sz) (ww_X7_point cI cM a_this a_this_now a_this_trial a_this_history a_this_cutter a_this_solver a_this_text a_this_refusals a_this_now_low a_this_now_high a_this_now_kind a_this_now_x a_this_now_y a_this_now_z a_this_solver_point a_this_solver_box a_this_solver_lows a_this_solver_highs a_this_solver_box_low a_this_solver_box_high o_refusals v_now_unknowns v_now_rules o_solver_verdict o_solver_taken o_solver_left o_solver_solvedBy o_solver_box_cut o_solver_box_empty v_now_low o_solver_box_low v_now_high o_solver_box_high o_solver_lows o_solver_highs o_solver_point v_now_x v_now_y v_now_z v_now_kind) r) 0 0 (va_A (ww_X7_point cI cM a_this a_this_now a_this_trial a_this_history a_this_cutter a_this_solver a_this_text a_this_refusals a_this_now_low a_this_now_high a_this_now_kind a_this_now_x a_this_now_y a_this_now_z a_this_solver_point a_this_solver_box a_this_solver_lows a_this_solver_highs a_this_solver_box_low a_this_solver_box_high v_refusals v_now_unknowns v_now_rules v_solver_verdict v_solver_taken v_solver_left v_solver_solvedBy v_solver_box_cut v_solver_box_empty v_now_low v_solver_box_low v_now_high v_solver_box_high v_solver_lows v_solver_highs v_solver_point v_now_x v_now_y v_now_z v_now_kind) sz) := by
  refine g_met (cc := cX7_point) (maxL := 3) (ret := (some .int)) (Qc := fun D A => g_QI D (g_tys cI cM) A (ww_X7_point cI cM a_this a_this_now a_this_trial a_this_history a_this_cutter a_this_solver a_this_text a_this_refusals a_this_now_low a_this_now_high a_this_now_kind a_this_now_x a_this_now_y a_this_now_z a_this_solver_point a_this_solver_box a_this_solver_lows a_this_solver_highs a_this_solver_box_low a_this_solver_box_high o_refusals v_now_unknowns v_now_rules o_solver_verdict o_solver_taken o_solver_left o_solver_solvedBy o_solver_box_cut o_solver_box_empty v_now_low o_solver_box_low v_now_high o_solver_box_high o_solver_lows o_solver_highs o_solver_point v_now_x v_now_y v_now_z v_now_kind) r) (by decide) rfl ?_
  intro p e s m below meth c A C0 hA hK hP hD
  have hl := lv_entry ([.ref a_this, .int x1, .int x2]) (n := 3) (Nat.le_of_ble_eq_true rfl)
  rw [lg_entry_eq]
  generalize (lg_sl ([.ref a_this, .int x1, .int x2]) ++ List.replicate (3 - (lg_sl ([.ref a_this, .int x1, .int x2])).length) Slot.unset).toArray = ls at hl ⊢
  have hl : lv_has ls 3 [(0, .ref a_this), (1, .int x1), (2, .int x2)] := hl
  exact w_X7_point_B0 C0 hA hK v_refusals v_solver_verdict v_solver_taken v_solver_left v_solver_solvedBy v_solver_box_cut v_solver_box_empty v_solver_box_low v_solver_box_high v_solver_lows v_solver_highs v_solver_point x1 x2 s.heap [] ls hf hP hD va_S.rf (lv_sub hl [0, 1, 2] rfl)
