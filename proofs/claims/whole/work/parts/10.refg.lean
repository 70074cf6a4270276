/-! FloatBoxesModel.takesBox()V -/
abbrev rm_X8_takesBox : Room := { frames := 11, cells := 0, slots := 0, locals := 270 }
abbrev ww_X8_takesBox (cI cM : ClassId) (a_this a_this_all a_this_past a_this_refused a_this_box a_this_row a_this_text a_this_numbers a_this_before : Nat) (v_states : Int32) (v_empty : Int32) (v_cut : Int32) (v_rowMany : Int32) (v_taken : Int32) (v_found : Int32) (v_textLong : Int32) (v_at : Int32) (v_stopped : Int32) (v_all : Nat → Int32) (v_box : Nat → Int32) (v_row : Nat → Int32) : va_W := [(a_this, .inr (6, [.ref a_this_all, .ref a_this_past, .int v_states, .ref a_this_refused, .ref a_this_box, .int v_empty, .int v_cut, .ref a_this_row, .int v_rowMany, .int v_taken, .int v_found, .ref a_this_text, .int v_textLong, .int v_at, .ref a_this_numbers, .int v_stopped, .ref a_this_before])), (a_this_all, .inl (cI, 38, .inl v_all)), (a_this_box, .inl (cI, 12, .inl v_box)), (a_this_row, .inl (cI, 768, .inl v_row))]
def f_X8_takesBox_C22 (N : Nat) (v_all : Nat → Int32) (k22 : Int32 → Int32 → Int32 → Int32 → Int32 → (Nat → Int32) → (Nat → Int32) → Int32 → Option (Int32 × Int32 × Int32 × Int32 × Int32 × (Nat → Int32) × (Nat → Int32))) (v_empty : Int32) (v_cut : Int32) (v_rowMany : Int32) (v_taken : Int32) (v_found : Int32) (v_box : Nat → Int32) (v_row : Nat → Int32) (x1 : Int32) : Option (Int32 × Int32 × Int32 × Int32 × Int32 × (Nat → Int32) × (Nat → Int32)) :=
  if 12 ≤ x1 then
    o_b4 (f_X8_cutsAll N v_all 0 v_cut v_box) (fun (r60 : Int32) (v_empty_60 : Int32) (v_cut_60 : Int32) (v_box_60 : Nat → Int32) =>
    if v_empty_60 = 0 then
      o_b1 (f_X8_widest N v_all v_box_60) (fun (r73 : Int32) =>
      if 0 ≤ r73 then
        o_b1 (f_X8_low v_box_60 r73) (fun (r92 : Int32) =>
        o_b1 (f_X8_high v_box_60 r73) (fun (r98 : Int32) =>
        o_b1 (f_X8_floorHalf (r92.toInt64 + r98.toInt64)) (fun (r109 : Int64) =>
        o_b2 (f_X8_puts N v_box_60 v_rowMany v_row r73 (r109.toInt32 + 1) r98) (fun (v_rowMany_123 : Int32) (v_row_123 : Nat → Int32) =>
        o_b2 (f_X8_puts N v_box_60 v_rowMany_123 v_row_123 r73 r92 r109.toInt32) (fun (v_rowMany_131 : Int32) (v_row_131 : Nat → Int32) =>
        some (v_empty_60, v_cut_60, v_rowMany_131, v_taken, v_found, v_box_60, v_row_131))))))
      else
        o_b1 (f_X8_allHold N v_all v_box_60) (fun (r83 : Int32) =>
        o_ck (o_zb r83) (
        some (v_empty_60, v_cut_60, v_rowMany, v_taken, r83, v_box_60, v_row))))
    else
      some (v_empty_60, v_cut_60, v_rowMany, v_taken, v_found, v_box_60, v_row))
  else
    o_in ((12 * v_rowMany) + x1) 768 (
    o_in x1 12 (
    k22 v_empty v_cut v_rowMany v_taken v_found (upd v_box x1.toNatClampNeg (v_row ((12 * v_rowMany) + x1).toNatClampNeg)) v_row (x1 + 1)))
def f_X8_takesBox_L22 (N : Nat) (v_all : Nat → Int32) : Nat → Int32 → Int32 → Int32 → Int32 → Int32 → (Nat → Int32) → (Nat → Int32) → Int32 → Option (Int32 × Int32 × Int32 × Int32 × Int32 × (Nat → Int32) × (Nat → Int32))
  | 0 => fun _ _ _ _ _ _ _ _ => none
  | n + 1 => f_X8_takesBox_C22 N v_all (f_X8_takesBox_L22 N v_all n)
set_option maxHeartbeats 4000000 in
set_option maxRecDepth 100000 in
theorem w_X8_takesBox_C22 {p : Program} {l : Launch} {e : Env} {s : State} {m : MethodId} {args : Array Value} {below : List Frame} {meth : Method} {c : Code} {D : va_G} {cI cM : ClassId} {A : Nat → Prop} {a_this a_this_all a_this_past a_this_refused a_this_box a_this_row a_this_text a_this_numbers a_this_before : Nat} {v_states : Int32} {v_textLong : Int32} {v_at : Int32} {v_stopped : Int32} {N : Nat} {v_all : Nat → Int32} {o_empty : Int32} {o_cut : Int32} {o_rowMany : Int32} {o_taken : Int32} {o_found : Int32} {o_box : Nat → Int32} {o_row : Nat → Int32} (C0 : g_cx cX8_takesBox none 6 RX8 wsX8_takesBox p s m args meth c) (hA : ∀ q, s.heap.size ≤ q → A q) (hK : va_K D vwCl (g_tys cI cM) s) (k22 : Int32 → Int32 → Int32 → Int32 → Int32 → (Nat → Int32) → (Nat → Int32) → Int32 → Option (Int32 × Int32 × Int32 × Int32 × Int32 × (Nat → Int32) × (Nat → Int32))) (hk22 : ∀ (v_empty : Int32) (v_cut : Int32) (v_rowMany : Int32) (v_taken : Int32) (v_found : Int32) (v_box : Nat → Int32) (v_row : Nat → Int32) (x1 : Int32) (H : Heap) (locs : List Loc) (ls : Array Slot), k22 v_empty v_cut v_rowMany v_taken v_found v_box v_row x1 = some (o_empty, o_cut, o_rowMany, o_taken, o_found, o_box, o_row) → va_P D vwCl (ww_X8_takesBox cI cM a_this a_this_all a_this_past a_this_refused a_this_box a_this_row a_this_text a_this_numbers a_this_before v_states v_empty v_cut v_rowMany v_taken v_found v_textLong v_at v_stopped v_all v_box v_row) H → va_D A (ww_X8_takesBox cI cM a_this a_this_all a_this_past a_this_refused a_this_box a_this_row a_this_text a_this_numbers a_this_before v_states v_empty v_cut v_rowMany v_taken v_found v_textLong v_at v_stopped v_all v_box v_row) → va_S A s.heap H locs → lv_has ls 6 [(0, .ref a_this), (1, .int x1)] → W p l e rm_X8_takesBox s m args below meth c H locs 0 0 (MQ below (g_QV D (g_tys cI cM) A (ww_X8_takesBox cI cM a_this a_this_all a_this_past a_this_refused a_this_box a_this_row a_this_text a_this_numbers a_this_before v_states o_empty o_cut o_rowMany o_taken o_found v_textLong v_at v_stopped v_all o_box o_row)) args s 0 0 A) (F0 m 22 ls [])) : ∀ (v_empty : Int32) (v_cut : Int32) (v_rowMany : Int32) (v_taken : Int32) (v_found : Int32) (v_box : Nat → Int32) (v_row : Nat → Int32) (x1 : Int32) (H : Heap) (locs : List Loc) (ls : Array Slot), f_X8_takesBox_C22 N v_all k22 v_empty v_cut v_rowMany v_taken v_found v_box v_row x1 = some (o_empty, o_cut, o_rowMany, o_taken, o_found, o_box, o_row) → va_P D vwCl (ww_X8_takesBox cI cM a_this a_this_all a_this_past a_this_refused a_this_box a_this_row a_this_text a_this_numbers a_this_before v_states v_empty v_cut v_rowMany v_taken v_found v_textLong v_at v_stopped v_all v_box v_row) H → va_D A (ww_X8_takesBox cI cM a_this a_this_all a_this_past a_this_refused a_this_box a_this_row a_this_text a_this_numbers a_this_before v_states v_empty v_cut v_rowMany v_taken v_found v_textLong v_at v_stopped v_all v_box v_row) → va_S A s.heap H locs → lv_has ls 6 [(0, .ref a_this), (1, .int x1)] → W p l e rm_X8_takesBox s m args below meth c H locs 0 0 (MQ below (g_QV D (g_tys cI cM) A (ww_X8_takesBox cI cM a_this a_this_all a_this_past a_this_refused a_this_box a_this_row a_this_text a_this_numbers a_this_before v_states o_empty o_cut o_rowMany o_taken o_found v_textLong v_at v_stopped v_all o_box o_row)) args s 0 0 A) (F0 m 22 ls []) := by
  obtain ⟨hx, hb, hr, hml, hown, hts, hlocks⟩ := id C0
  intro v_empty v_cut v_rowMany v_taken v_found v_box v_row x1 H locs ls hf hP hD hS hl
  unfold f_X8_takesBox_C22 at hf
  refine lv_iload_n hx hb dX8_takesBox_22 rfl (lv_at hl 1 rfl) ?_
  refine lv_bipush (v := 12) hx hb dX8_takesBox_23 (by decide) ?_
  refine lv_icmp_ge (tgt := 54) hx hb dX8_takesBox_25 (by decide) (fun c25 => ?_) (fun c25 => ?_)
  · replace hf := o_t c25 hf
    refine lv_aload_n hx hb dX8_takesBox_54 rfl (lv_at hl 0 rfl) ?_
    refine lv_iconst (v := 0) hx hb dX8_takesBox_55 (by decide) ?_
    refine va_put (D := D) (ci := 6) (v := .int 0) (ty := .boolean) (C := RX8) (T := TX8) (N := 17) hx hb hts (fun _ h => (List.mem_cons_of_mem _ (List.mem_append_right _ h))) tyX8 tyX8_ok nmX8 hown hK hP hD hS 0 rfl rfl 5 (by decide) (hts (.fieldLink RX8 124 "FloatBoxesModel" "empty" "Z") (List.mem_cons_of_mem _ (List.mem_append_left _ (List.mem_append_left _ (List.mem_of_getElem? (i := 4) rfl))))) (fun _ h9 => h9) rfl (by decide +kernel) (by decide) (by decide) (Nat.le_of_ble_eq_true rfl) dX8_takesBox_56 (fun H locs hP hD hS => ?_)
    replace hP : va_P D vwCl (ww_X8_takesBox cI cM a_this a_this_all a_this_past a_this_refused a_this_box a_this_row a_this_text a_this_numbers a_this_before v_states 0 v_cut v_rowMany v_taken v_found v_textLong v_at v_stopped v_all v_box v_row) H := hP
    replace hD : va_D A (ww_X8_takesBox cI cM a_this a_this_all a_this_past a_this_refused a_this_box a_this_row a_this_text a_this_numbers a_this_before v_states 0 v_cut v_rowMany v_taken v_found v_textLong v_at v_stopped v_all v_box v_row) := hD
    refine lv_aload_n hx hb dX8_takesBox_59 rfl (lv_at hl 0 rfl) ?_
    obtain ⟨r60, v_empty_60, v_cut_60, v_box_60, hg60, hf⟩ := o_b4_go hf
    refine g_callVi (wn := (ww_X8_takesBox cI cM a_this a_this_all a_this_past a_this_refused a_this_box a_this_row a_this_text a_this_numbers a_this_before v_states v_empty_60 v_cut_60 v_rowMany v_taken v_found v_textLong v_at v_stopped v_all v_box_60 v_row)) (rest := []) ⟨hx, hb, hml, hown, hts⟩ (c_X8_cutsAll l D cI cM a_this a_this_all a_this_past a_this_refused a_this_box a_this_row a_this_text a_this_numbers a_this_before H.size v_states 0 v_cut v_rowMany v_taken v_found v_textLong v_at v_stopped v_all v_box hg60) (cwV 0 hts gX8_takesBox_X8_cutsAll rfl rfl rfl (by decide +kernel) ⟨Nat.le_of_ble_eq_true rfl, Nat.le_of_ble_eq_true rfl⟩) hK hP hD hS hA [0, 1, 2] [3] [1, 2, 3, 0] rfl rfl rfl rfl rfl rfl (by decide) rfl rfl rfl hl.1 rfl (Nat.le_of_ble_eq_true rfl) dX8_takesBox_60 (fun H locs hP hD hS => ?_)
    refine lv_istore_n (lv' := [(1, .int r60), (0, .ref a_this)]) hx hb dX8_takesBox_63 rfl hl (by decide) rfl (fun ls hl => ?_)
    refine lv_aload_n hx hb dX8_takesBox_64 rfl (lv_at hl 1 rfl) ?_
    refine va_get (D := D) (ci := 6) (v := .int v_empty_60) (C := RX8) (T := TX8) (N := 17) hx hb hts (fun _ h => (List.mem_cons_of_mem _ (List.mem_append_right _ h))) hown hK hP 0 rfl rfl 5 (by decide) (hts (.fieldLink RX8 124 "FloatBoxesModel" "empty" "Z") (List.mem_cons_of_mem _ (List.mem_append_left _ (List.mem_append_left _ (List.mem_of_getElem? (i := 4) rfl))))) (fun _ h9 => h9) rfl dX8_takesBox_65 ?_
    refine lv_if_eq (tgt := 72) hx hb dX8_takesBox_68 (by decide) (fun c68 => ?_) (fun c68 => ?_)
    · replace hf := o_t c68 hf
      refine lv_aload_n hx hb dX8_takesBox_72 rfl (lv_at hl 1 rfl) ?_
      obtain ⟨r73, hg73, hf⟩ := o_b1_go hf
      refine g_callVi (wn := (ww_X8_takesBox cI cM a_this a_this_all a_this_past a_this_refused a_this_box a_this_row a_this_text a_this_numbers a_this_before v_states v_empty_60 v_cut_60 v_rowMany v_taken v_found v_textLong v_at v_stopped v_all v_box_60 v_row)) (rest := []) ⟨hx, hb, hml, hown, hts⟩ (c_X8_widest l D cI cM a_this a_this_all a_this_past a_this_refused a_this_box a_this_row a_this_text a_this_numbers a_this_before H.size v_states v_empty_60 v_cut_60 v_rowMany v_taken v_found v_textLong v_at v_stopped v_all v_box_60 hg73) (cwV 0 hts gX8_takesBox_X8_widest rfl rfl rfl (by decide +kernel) ⟨Nat.le_of_ble_eq_true rfl, Nat.le_of_ble_eq_true rfl⟩) hK hP hD hS hA [0, 1, 2] [3] [1, 2, 3, 0] rfl rfl rfl rfl rfl rfl (by decide) rfl rfl rfl hl.1 rfl (Nat.le_of_ble_eq_true rfl) dX8_takesBox_73 (fun H locs hP hD hS => ?_)
      refine lv_istore_n (lv' := [(2, .int r73), (1, .int r60), (0, .ref a_this)]) hx hb dX8_takesBox_76 rfl hl (by decide) rfl (fun ls hl => ?_)
      refine lv_iload_n hx hb dX8_takesBox_77 rfl (lv_at hl 0 rfl) ?_
      refine lv_if_ge (tgt := 90) hx hb dX8_takesBox_78 (by decide) (fun c78 => ?_) (fun c78 => ?_)
      · replace hf := o_t c78 hf
        refine lv_aload_n hx hb dX8_takesBox_90 rfl (lv_at hl 2 rfl) ?_
        refine lv_iload_n hx hb dX8_takesBox_91 rfl (lv_at hl 0 rfl) ?_
        obtain ⟨r92, hg92, hf⟩ := o_b1_go hf
        refine g_callVi (wn := (ww_X8_takesBox cI cM a_this a_this_all a_this_past a_this_refused a_this_box a_this_row a_this_text a_this_numbers a_this_before v_states v_empty_60 v_cut_60 v_rowMany v_taken v_found v_textLong v_at v_stopped v_all v_box_60 v_row)) (rest := []) ⟨hx, hb, hml, hown, hts⟩ (c_X8_low l D cI cM a_this a_this_all a_this_past a_this_refused a_this_box a_this_row a_this_text a_this_numbers a_this_before H.size v_states v_empty_60 v_cut_60 v_rowMany v_taken v_found v_textLong v_at v_stopped v_box_60 hg92) (cwV 1 hts gX8_takesBox_X8_low rfl rfl rfl (by decide +kernel) ⟨Nat.le_of_ble_eq_true rfl, Nat.le_of_ble_eq_true rfl⟩) hK hP hD hS hA [0, 2] [1, 3] [2, 0, 3, 1] rfl rfl rfl rfl rfl rfl (by decide) rfl rfl rfl hl.1 rfl (Nat.le_of_ble_eq_true rfl) dX8_takesBox_92 (fun H locs hP hD hS => ?_)
        refine lv_istore_n (lv' := [(3, .int r92), (2, .int r73), (1, .int r60), (0, .ref a_this)]) hx hb dX8_takesBox_95 rfl hl (by decide) rfl (fun ls hl => ?_)
        refine lv_aload_n hx hb dX8_takesBox_96 rfl (lv_at hl 3 rfl) ?_
        refine lv_iload_n hx hb dX8_takesBox_97 rfl (lv_at hl 1 rfl) ?_
        obtain ⟨r98, hg98, hf⟩ := o_b1_go hf
        refine g_callVi (wn := (ww_X8_takesBox cI cM a_this a_this_all a_this_past a_this_refused a_this_box a_this_row a_this_text a_this_numbers a_this_before v_states v_empty_60 v_cut_60 v_rowMany v_taken v_found v_textLong v_at v_stopped v_all v_box_60 v_row)) (rest := []) ⟨hx, hb, hml, hown, hts⟩ (c_X8_high l D cI cM a_this a_this_all a_this_past a_this_refused a_this_box a_this_row a_this_text a_this_numbers a_this_before H.size v_states v_empty_60 v_cut_60 v_rowMany v_taken v_found v_textLong v_at v_stopped v_box_60 hg98) (cwV 1 hts gX8_takesBox_X8_high rfl rfl rfl (by decide +kernel) ⟨Nat.le_of_ble_eq_true rfl, Nat.le_of_ble_eq_true rfl⟩) hK hP hD hS hA [0, 2] [1, 3] [2, 0, 3, 1] rfl rfl rfl rfl rfl rfl (by decide) rfl rfl rfl hl.1 rfl (Nat.le_of_ble_eq_true rfl) dX8_takesBox_98 (fun H locs hP hD hS => ?_)
        refine lv_istore (lv' := [(4, .int r98), (3, .int r92), (2, .int r73), (1, .int r60), (0, .ref a_this)]) hx hb dX8_takesBox_101 hl (by decide) rfl (fun ls hl => ?_)
        refine lv_iload_n hx hb dX8_takesBox_103 rfl (lv_at hl 1 rfl) ?_
        refine lv_i2l hx hb dX8_takesBox_104 rfl ?_
        refine lv_iload hx hb dX8_takesBox_105 (lv_at hl 0 rfl) ?_
        refine lv_i2l hx hb dX8_takesBox_107 rfl ?_
        refine lv_ladd hx hb dX8_takesBox_108 ?_
        obtain ⟨r109, hg109, hf⟩ := o_b1_go hf
        refine g_callSl (rest := []) ⟨hx, hb, hml, hown, hts⟩ (c_X8_floorHalf l hg109) (va_cwS 1 hts gX8_takesBox_X8_floorHalf rfl rfl rfl (by decide +kernel) ⟨Nat.le_of_ble_eq_true rfl, Nat.le_of_ble_eq_true rfl⟩) rfl hl.1 rfl (Nat.le_of_ble_eq_true rfl) dX8_takesBox_109 ?_
        refine lv_l2i hx hb dX8_takesBox_112 rfl ?_
        refine lv_istore (lv' := [(5, .int r109.toInt32), (4, .int r98), (3, .int r92), (2, .int r73), (1, .int r60), (0, .ref a_this)]) hx hb dX8_takesBox_113 hl (by decide) rfl (fun ls hl => ?_)
        refine lv_aload_n hx hb dX8_takesBox_115 rfl (lv_at hl 5 rfl) ?_
        refine lv_iload_n hx hb dX8_takesBox_116 rfl (lv_at hl 3 rfl) ?_
        refine lv_iload hx hb dX8_takesBox_117 (lv_at hl 0 rfl) ?_
        refine lv_iconst (v := 1) hx hb dX8_takesBox_119 (by decide) ?_
        refine lv_iadd hx hb dX8_takesBox_120 ?_
        refine lv_iload hx hb dX8_takesBox_121 (lv_at hl 1 rfl) ?_
        obtain ⟨v_rowMany_123, v_row_123, hg123, hf⟩ := o_b2_go hf
        refine g_callVv (wn := (ww_X8_takesBox cI cM a_this a_this_all a_this_past a_this_refused a_this_box a_this_row a_this_text a_this_numbers a_this_before v_states v_empty_60 v_cut_60 v_rowMany_123 v_taken v_found v_textLong v_at v_stopped v_all v_box_60 v_row_123)) (rest := []) ⟨hx, hb, hml, hown, hts⟩ (c_X8_puts l D cI cM a_this a_this_all a_this_past a_this_refused a_this_box a_this_row a_this_text a_this_numbers a_this_before H.size v_states v_empty_60 v_cut_60 v_rowMany v_taken v_found v_textLong v_at v_stopped v_row v_box_60 hg123) (cwV 3 hts gX8_takesBox_X8_puts rfl rfl rfl (by decide +kernel) ⟨Nat.le_of_ble_eq_true rfl, Nat.le_of_ble_eq_true rfl⟩) hK hP hD hS hA [0, 3, 2] [1] [1, 0, 3, 2] rfl rfl rfl rfl rfl rfl (by decide) rfl rfl rfl hl.1 rfl (Nat.le_of_ble_eq_true rfl) dX8_takesBox_123 (fun H locs hP hD hS => ?_)
        refine lv_aload_n hx hb dX8_takesBox_126 rfl (lv_at hl 5 rfl) ?_
        refine lv_iload_n hx hb dX8_takesBox_127 rfl (lv_at hl 3 rfl) ?_
        refine lv_iload_n hx hb dX8_takesBox_128 rfl (lv_at hl 2 rfl) ?_
        refine lv_iload hx hb dX8_takesBox_129 (lv_at hl 0 rfl) ?_
        obtain ⟨v_rowMany_131, v_row_131, hg131, hf⟩ := o_b2_go hf
        refine g_callVv (wn := (ww_X8_takesBox cI cM a_this a_this_all a_this_past a_this_refused a_this_box a_this_row a_this_text a_this_numbers a_this_before v_states v_empty_60 v_cut_60 v_rowMany_131 v_taken v_found v_textLong v_at v_stopped v_all v_box_60 v_row_131)) (rest := []) ⟨hx, hb, hml, hown, hts⟩ (c_X8_puts l D cI cM a_this a_this_all a_this_past a_this_refused a_this_box a_this_row a_this_text a_this_numbers a_this_before H.size v_states v_empty_60 v_cut_60 v_rowMany_123 v_taken v_found v_textLong v_at v_stopped v_row_123 v_box_60 hg131) (cwV 3 hts gX8_takesBox_X8_puts rfl rfl rfl (by decide +kernel) ⟨Nat.le_of_ble_eq_true rfl, Nat.le_of_ble_eq_true rfl⟩) hK hP hD hS hA [0, 3, 2] [1] [1, 0, 3, 2] rfl rfl rfl rfl rfl rfl (by decide) rfl rfl rfl hl.1 rfl (Nat.le_of_ble_eq_true rfl) dX8_takesBox_131 (fun H locs hP hD hS => ?_)
        obtain ⟨q0, y0⟩ := o_rp hf
        obtain ⟨q1, y1⟩ := o_rp y0
        obtain ⟨q2, y2⟩ := o_rp y1
        obtain ⟨q3, y3⟩ := o_rp y2
        obtain ⟨q4, y4⟩ := o_rp y3
        obtain ⟨q5, y5⟩ := o_rp y4
        have q6 := Option.some.inj y5
        subst q0 q1 q2 q3 q4 q5 q6
        exact g_vret hx hb hr hlocks hP hD hK hS dX8_takesBox_134
      · replace hf := o_f c78 hf
        refine lv_aload_n hx hb dX8_takesBox_81 rfl (lv_at hl 2 rfl) ?_
        refine lv_aload_n hx hb dX8_takesBox_82 rfl (lv_at hl 2 rfl) ?_
        obtain ⟨r83, hg83, hf⟩ := o_b1_go hf
        refine g_callVi (wn := (ww_X8_takesBox cI cM a_this a_this_all a_this_past a_this_refused a_this_box a_this_row a_this_text a_this_numbers a_this_before v_states v_empty_60 v_cut_60 v_rowMany v_taken v_found v_textLong v_at v_stopped v_all v_box_60 v_row)) (rest := [.ref a_this]) ⟨hx, hb, hml, hown, hts⟩ (c_X8_allHold l D cI cM a_this a_this_all a_this_past a_this_refused a_this_box a_this_row a_this_text a_this_numbers a_this_before H.size v_states v_empty_60 v_cut_60 v_rowMany v_taken v_found v_textLong v_at v_stopped v_all v_box_60 hg83) (cwV 0 hts gX8_takesBox_X8_allHold rfl rfl rfl (by decide +kernel) ⟨Nat.le_of_ble_eq_true rfl, Nat.le_of_ble_eq_true rfl⟩) hK hP hD hS hA [0, 1, 2] [3] [1, 2, 3, 0] rfl rfl rfl rfl rfl rfl (by decide) rfl rfl rfl hl.1 rfl (Nat.le_of_ble_eq_true rfl) dX8_takesBox_83 (fun H locs hP hD hS => ?_)
        obtain ⟨hz86, hf⟩ := o_ck_go hf
        refine va_put (D := D) (ci := 6) (v := .int r83) (ty := .boolean) (C := RX8) (T := TX8) (N := 17) hx hb hts (fun _ h => (List.mem_cons_of_mem _ (List.mem_append_right _ h))) tyX8 tyX8_ok nmX8 hown hK hP hD hS 0 rfl rfl 10 (by decide) (hts (.fieldLink RX8 247 "FloatBoxesModel" "found" "Z") (List.mem_cons_of_mem _ (List.mem_append_left _ (List.mem_append_left _ (List.mem_of_getElem? (i := 5) rfl))))) (fun _ h9 => h9) rfl (by decide +kernel) (o_zb_nar hz86) (o_zb_fit hz86) (Nat.le_of_ble_eq_true rfl) dX8_takesBox_86 (fun H locs hP hD hS => ?_)
        replace hP : va_P D vwCl (ww_X8_takesBox cI cM a_this a_this_all a_this_past a_this_refused a_this_box a_this_row a_this_text a_this_numbers a_this_before v_states v_empty_60 v_cut_60 v_rowMany v_taken r83 v_textLong v_at v_stopped v_all v_box_60 v_row) H := hP
        replace hD : va_D A (ww_X8_takesBox cI cM a_this a_this_all a_this_past a_this_refused a_this_box a_this_row a_this_text a_this_numbers a_this_before v_states v_empty_60 v_cut_60 v_rowMany v_taken r83 v_textLong v_at v_stopped v_all v_box_60 v_row) := hD
        obtain ⟨q0, y0⟩ := o_rp hf
        obtain ⟨q1, y1⟩ := o_rp y0
        obtain ⟨q2, y2⟩ := o_rp y1
        obtain ⟨q3, y3⟩ := o_rp y2
        obtain ⟨q4, y4⟩ := o_rp y3
        obtain ⟨q5, y5⟩ := o_rp y4
        have q6 := Option.some.inj y5
        subst q0 q1 q2 q3 q4 q5 q6
        exact g_vret hx hb hr hlocks hP hD hK hS dX8_takesBox_89
    · replace hf := o_f c68 hf
      obtain ⟨q0, y0⟩ := o_rp hf
      obtain ⟨q1, y1⟩ := o_rp y0
      obtain ⟨q2, y2⟩ := o_rp y1
      obtain ⟨q3, y3⟩ := o_rp y2
      obtain ⟨q4, y4⟩ := o_rp y3
      obtain ⟨q5, y5⟩ := o_rp y4
      have q6 := Option.some.inj y5
      subst q0 q1 q2 q3 q4 q5 q6
      exact g_vret hx hb hr hlocks hP hD hK hS dX8_takesBox_71
  · replace hf := o_f c25 hf
    refine lv_aload_n hx hb dX8_takesBox_28 rfl (lv_at hl 0 rfl) ?_
    refine va_get (D := D) (ci := 6) (v := .ref a_this_box) (C := RX8) (T := TX8) (N := 17) hx hb hts (fun _ h => (List.mem_cons_of_mem _ (List.mem_append_right _ h))) hown hK hP 0 rfl rfl 4 (by decide) (hts (.fieldLink RX8 19 "FloatBoxesModel" "box" "[I") (List.mem_cons_of_mem _ (List.mem_append_left _ (List.mem_append_left _ (List.mem_of_getElem? (i := 2) rfl))))) (fun _ h9 => h9) rfl dX8_takesBox_29 ?_
    refine lv_iload_n hx hb dX8_takesBox_32 rfl (lv_at hl 1 rfl) ?_
    refine lv_aload_n hx hb dX8_takesBox_33 rfl (lv_at hl 0 rfl) ?_
    refine va_get (D := D) (ci := 6) (v := .ref a_this_row) (C := RX8) (T := TX8) (N := 17) hx hb hts (fun _ h => (List.mem_cons_of_mem _ (List.mem_append_right _ h))) hown hK hP 0 rfl rfl 7 (by decide) (hts (.fieldLink RX8 22 "FloatBoxesModel" "row" "[I") (List.mem_cons_of_mem _ (List.mem_append_left _ (List.mem_append_left _ (List.mem_of_getElem? (i := 3) rfl))))) (fun _ h9 => h9) rfl dX8_takesBox_34 ?_
    refine lv_bipush (v := 12) hx hb dX8_takesBox_37 (by decide) ?_
    refine lv_aload_n hx hb dX8_takesBox_39 rfl (lv_at hl 0 rfl) ?_
    refine va_get (D := D) (ci := 6) (v := .int v_rowMany) (C := RX8) (T := TX8) (N := 17) hx hb hts (fun _ h => (List.mem_cons_of_mem _ (List.mem_append_right _ h))) hown hK hP 0 rfl rfl 8 (by decide) (hts (.fieldLink RX8 234 "FloatBoxesModel" "rowMany" "I") (List.mem_cons_of_mem _ (List.mem_append_left _ (List.mem_append_left _ (List.mem_of_getElem? (i := 0) rfl))))) (fun _ h9 => h9) rfl dX8_takesBox_40 ?_
    refine lv_imul hx hb dX8_takesBox_43 ?_
    refine lv_iload_n hx hb dX8_takesBox_44 rfl (lv_at hl 1 rfl) ?_
    refine lv_iadd hx hb dX8_takesBox_45 ?_
    obtain ⟨h46, hf⟩ := o_in_go hf
    refine va_iald hx hb hK hP 3 0 rfl rfl h46 dX8_takesBox_46 ?_
    obtain ⟨h47, hf⟩ := o_in_go hf
    refine va_iast hx hb hK hP hD hS 2 0 rfl rfl h47 dX8_takesBox_47 (fun H locs hP hD hS => ?_)
    replace hP : va_P D vwCl (ww_X8_takesBox cI cM a_this a_this_all a_this_past a_this_refused a_this_box a_this_row a_this_text a_this_numbers a_this_before v_states v_empty v_cut v_rowMany v_taken v_found v_textLong v_at v_stopped v_all (upd v_box x1.toNatClampNeg (v_row ((12 * v_rowMany) + x1).toNatClampNeg)) v_row) H := hP
    replace hD : va_D A (ww_X8_takesBox cI cM a_this a_this_all a_this_past a_this_refused a_this_box a_this_row a_this_text a_this_numbers a_this_before v_states v_empty v_cut v_rowMany v_taken v_found v_textLong v_at v_stopped v_all (upd v_box x1.toNatClampNeg (v_row ((12 * v_rowMany) + x1).toNatClampNeg)) v_row) := hD
    refine lv_iinc (v := x1 + 1) (lv' := [(1, .int (x1 + 1)), (0, .ref a_this)]) hx hb dX8_takesBox_48 hl (k := 1) rfl rfl (by decide) rfl (fun ls hl => ?_)
    refine lv_goto (tgt := 22) hx hb dX8_takesBox_51 (by decide) ?_
    exact hk22 v_empty v_cut v_rowMany v_taken v_found (upd v_box x1.toNatClampNeg (v_row ((12 * v_rowMany) + x1).toNatClampNeg)) v_row (x1 + 1) H locs ls hf hP hD hS (lv_sub hl [1, 0] rfl)
set_option maxHeartbeats 4000000 in
set_option maxRecDepth 100000 in
theorem w_X8_takesBox_L22 {p : Program} {l : Launch} {e : Env} {s : State} {m : MethodId} {args : Array Value} {below : List Frame} {meth : Method} {c : Code} {D : va_G} {cI cM : ClassId} {A : Nat → Prop} {a_this a_this_all a_this_past a_this_refused a_this_box a_this_row a_this_text a_this_numbers a_this_before : Nat} {v_states : Int32} {v_textLong : Int32} {v_at : Int32} {v_stopped : Int32} {N : Nat} {v_all : Nat → Int32} {o_empty : Int32} {o_cut : Int32} {o_rowMany : Int32} {o_taken : Int32} {o_found : Int32} {o_box : Nat → Int32} {o_row : Nat → Int32} (C0 : g_cx cX8_takesBox none 6 RX8 wsX8_takesBox p s m args meth c) (hA : ∀ q, s.heap.size ≤ q → A q) (hK : va_K D vwCl (g_tys cI cM) s) : ∀ n : Nat, ∀ (v_empty : Int32) (v_cut : Int32) (v_rowMany : Int32) (v_taken : Int32) (v_found : Int32) (v_box : Nat → Int32) (v_row : Nat → Int32) (x1 : Int32) (H : Heap) (locs : List Loc) (ls : Array Slot), f_X8_takesBox_L22 N v_all n v_empty v_cut v_rowMany v_taken v_found v_box v_row x1 = some (o_empty, o_cut, o_rowMany, o_taken, o_found, o_box, o_row) → va_P D vwCl (ww_X8_takesBox cI cM a_this a_this_all a_this_past a_this_refused a_this_box a_this_row a_this_text a_this_numbers a_this_before v_states v_empty v_cut v_rowMany v_taken v_found v_textLong v_at v_stopped v_all v_box v_row) H → va_D A (ww_X8_takesBox cI cM a_this a_this_all a_this_past a_this_refused a_this_box a_this_row a_this_text a_this_numbers a_this_before v_states v_empty v_cut v_rowMany v_taken v_found v_textLong v_at v_stopped v_all v_box v_row) → va_S A s.heap H locs → lv_has ls 6 [(0, .ref a_this), (1, .int x1)] → W p l e rm_X8_takesBox s m args below meth c H locs 0 0 (MQ below (g_QV D (g_tys cI cM) A (ww_X8_takesBox cI cM a_this a_this_all a_this_past a_this_refused a_this_box a_this_row a_this_text a_this_numbers a_this_before v_states o_empty o_cut o_rowMany o_taken o_found v_textLong v_at v_stopped v_all o_box o_row)) args s 0 0 A) (F0 m 22 ls []) := by
  intro n
  induction n with
  | zero =>
    intro v_empty v_cut v_rowMany v_taken v_found v_box v_row x1 H locs ls hf
    exact absurd hf (fun h => nomatch h)
  | succ n ih =>
    intro v_empty v_cut v_rowMany v_taken v_found v_box v_row x1 H locs ls hf
    exact w_X8_takesBox_C22 C0 hA hK _ ih v_empty v_cut v_rowMany v_taken v_found v_box v_row x1 H locs ls hf
def f_X8_takesBox (N : Nat) (v_all : Nat → Int32) (v_empty : Int32) (v_cut : Int32) (v_rowMany : Int32) (v_taken : Int32) (v_found : Int32) (v_box : Nat → Int32) (v_row : Nat → Int32) : Option (Int32 × Int32 × Int32 × Int32 × Int32 × (Nat → Int32) × (Nat → Int32)) :=
  f_X8_takesBox_L22 N v_all N v_empty v_cut (v_rowMany - 1) (v_taken + 1) v_found v_box v_row 0
set_option maxHeartbeats 4000000 in
set_option maxRecDepth 100000 in
theorem w_X8_takesBox_B0 {p : Program} {l : Launch} {e : Env} {s : State} {m : MethodId} {args : Array Value} {below : List Frame} {meth : Method} {c : Code} {D : va_G} {cI cM : ClassId} {A : Nat → Prop} {a_this a_this_all a_this_past a_this_refused a_this_box a_this_row a_this_text a_this_numbers a_this_before : Nat} {v_states : Int32} {v_textLong : Int32} {v_at : Int32} {v_stopped : Int32} {N : Nat} {v_all : Nat → Int32} {o_empty : Int32} {o_cut : Int32} {o_rowMany : Int32} {o_taken : Int32} {o_found : Int32} {o_box : Nat → Int32} {o_row : Nat → Int32} (C0 : g_cx cX8_takesBox none 6 RX8 wsX8_takesBox p s m args meth c) (hA : ∀ q, s.heap.size ≤ q → A q) (hK : va_K D vwCl (g_tys cI cM) s) : ∀ (v_empty : Int32) (v_cut : Int32) (v_rowMany : Int32) (v_taken : Int32) (v_found : Int32) (v_box : Nat → Int32) (v_row : Nat → Int32) (H : Heap) (locs : List Loc) (ls : Array Slot), f_X8_takesBox N v_all v_empty v_cut v_rowMany v_taken v_found v_box v_row = some (o_empty, o_cut, o_rowMany, o_taken, o_found, o_box, o_row) → va_P D vwCl (ww_X8_takesBox cI cM a_this a_this_all a_this_past a_this_refused a_this_box a_this_row a_this_text a_this_numbers a_this_before v_states v_empty v_cut v_rowMany v_taken v_found v_textLong v_at v_stopped v_all v_box v_row) H → va_D A (ww_X8_takesBox cI cM a_this a_this_all a_this_past a_this_refused a_this_box a_this_row a_this_text a_this_numbers a_this_before v_states v_empty v_cut v_rowMany v_taken v_found v_textLong v_at v_stopped v_all v_box v_row) → va_S A s.heap H locs → lv_has ls 6 [(0, .ref a_this)] → W p l e rm_X8_takesBox s m args below meth c H locs 0 0 (MQ below (g_QV D (g_tys cI cM) A (ww_X8_takesBox cI cM a_this a_this_all a_this_past a_this_refused a_this_box a_this_row a_this_text a_this_numbers a_this_before v_states o_empty o_cut o_rowMany o_taken o_found v_textLong v_at v_stopped v_all o_box o_row)) args s 0 0 A) (F0 m 0 ls []) := by
  obtain ⟨hx, hb, hr, hml, hown, hts, hlocks⟩ := id C0
  intro v_empty v_cut v_rowMany v_taken v_found v_box v_row H locs ls hf hP hD hS hl
  unfold f_X8_takesBox at hf
  refine lv_aload_n hx hb dX8_takesBox_0 rfl (lv_at hl 0 rfl) ?_
  refine lv_dup hx hb dX8_takesBox_1 rfl ?_
  refine va_get (D := D) (ci := 6) (v := .int v_rowMany) (C := RX8) (T := TX8) (N := 17) hx hb hts (fun _ h => (List.mem_cons_of_mem _ (List.mem_append_right _ h))) hown hK hP 0 rfl rfl 8 (by decide) (hts (.fieldLink RX8 234 "FloatBoxesModel" "rowMany" "I") (List.mem_cons_of_mem _ (List.mem_append_left _ (List.mem_append_left _ (List.mem_of_getElem? (i := 0) rfl))))) (fun _ h9 => h9) rfl dX8_takesBox_2 ?_
  refine lv_iconst (v := 1) hx hb dX8_takesBox_5 (by decide) ?_
  refine lv_isub hx hb dX8_takesBox_6 ?_
  refine va_put (D := D) (ci := 6) (v := .int (v_rowMany - 1)) (ty := .int) (C := RX8) (T := TX8) (N := 17) hx hb hts (fun _ h => (List.mem_cons_of_mem _ (List.mem_append_right _ h))) tyX8 tyX8_ok nmX8 hown hK hP hD hS 0 rfl rfl 8 (by decide) (hts (.fieldLink RX8 234 "FloatBoxesModel" "rowMany" "I") (List.mem_cons_of_mem _ (List.mem_append_left _ (List.mem_append_left _ (List.mem_of_getElem? (i := 0) rfl))))) (fun _ h9 => h9) rfl (by decide +kernel) rfl rfl (Nat.le_of_ble_eq_true rfl) dX8_takesBox_7 (fun H locs hP hD hS => ?_)
  replace hP : va_P D vwCl (ww_X8_takesBox cI cM a_this a_this_all a_this_past a_this_refused a_this_box a_this_row a_this_text a_this_numbers a_this_before v_states v_empty v_cut (v_rowMany - 1) v_taken v_found v_textLong v_at v_stopped v_all v_box v_row) H := hP
  replace hD : va_D A (ww_X8_takesBox cI cM a_this a_this_all a_this_past a_this_refused a_this_box a_this_row a_this_text a_this_numbers a_this_before v_states v_empty v_cut (v_rowMany - 1) v_taken v_found v_textLong v_at v_stopped v_all v_box v_row) := hD
  refine lv_aload_n hx hb dX8_takesBox_10 rfl (lv_at hl 0 rfl) ?_
  refine lv_dup hx hb dX8_takesBox_11 rfl ?_
  refine va_get (D := D) (ci := 6) (v := .int v_taken) (C := RX8) (T := TX8) (N := 17) hx hb hts (fun _ h => (List.mem_cons_of_mem _ (List.mem_append_right _ h))) hown hK hP 0 rfl rfl 9 (by decide) (hts (.fieldLink RX8 237 "FloatBoxesModel" "taken" "I") (List.mem_cons_of_mem _ (List.mem_append_left _ (List.mem_append_left _ (List.mem_of_getElem? (i := 1) rfl))))) (fun _ h9 => h9) rfl dX8_takesBox_12 ?_
  refine lv_iconst (v := 1) hx hb dX8_takesBox_15 (by decide) ?_
  refine lv_iadd hx hb dX8_takesBox_16 ?_
  refine va_put (D := D) (ci := 6) (v := .int (v_taken + 1)) (ty := .int) (C := RX8) (T := TX8) (N := 17) hx hb hts (fun _ h => (List.mem_cons_of_mem _ (List.mem_append_right _ h))) tyX8 tyX8_ok nmX8 hown hK hP hD hS 0 rfl rfl 9 (by decide) (hts (.fieldLink RX8 237 "FloatBoxesModel" "taken" "I") (List.mem_cons_of_mem _ (List.mem_append_left _ (List.mem_append_left _ (List.mem_of_getElem? (i := 1) rfl))))) (fun _ h9 => h9) rfl (by decide +kernel) rfl rfl (Nat.le_of_ble_eq_true rfl) dX8_takesBox_17 (fun H locs hP hD hS => ?_)
  replace hP : va_P D vwCl (ww_X8_takesBox cI cM a_this a_this_all a_this_past a_this_refused a_this_box a_this_row a_this_text a_this_numbers a_this_before v_states v_empty v_cut (v_rowMany - 1) (v_taken + 1) v_found v_textLong v_at v_stopped v_all v_box v_row) H := hP
  replace hD : va_D A (ww_X8_takesBox cI cM a_this a_this_all a_this_past a_this_refused a_this_box a_this_row a_this_text a_this_numbers a_this_before v_states v_empty v_cut (v_rowMany - 1) (v_taken + 1) v_found v_textLong v_at v_stopped v_all v_box v_row) := hD
  refine lv_iconst (v := 0) hx hb dX8_takesBox_20 (by decide) ?_
  refine lv_istore_n (lv' := [(1, .int 0), (0, .ref a_this)]) hx hb dX8_takesBox_21 rfl hl (by decide) rfl (fun ls hl => ?_)
  exact w_X8_takesBox_L22 C0 hA hK N v_empty v_cut (v_rowMany - 1) (v_taken + 1) v_found v_box v_row 0 H locs ls hf hP hD hS (lv_sub hl [1, 0] rfl)
set_option maxHeartbeats 4000000 in
set_option maxRecDepth 100000 in
theorem c_X8_takesBox (l : Launch) (D : va_G) (cI cM : ClassId) (a_this a_this_all a_this_past a_this_refused a_this_box a_this_row a_this_text a_this_numbers a_this_before : Nat) (sz : Nat) (v_states : Int32) (v_empty : Int32) (v_cut : Int32) (v_rowMany : Int32) (v_taken : Int32) (v_found : Int32) (v_textLong : Int32) (v_at : Int32) (v_stopped : Int32) (v_all : Nat → Int32) (v_box : Nat → Int32) (v_row : Nat → Int32) {N : Nat} {o_empty : Int32} {o_cut : Int32} {o_rowMany : Int32} {o_taken : Int32} {o_found : Int32} {o_box : Nat → Int32} {o_row : Nat → Int32} (hf : f_X8_takesBox N v_all v_empty v_cut v_rowMany v_taken v_found v_box v_row = some (o_empty, o_cut, o_rowMany, o_taken, o_found, o_box, o_row)) : Met l yX8_takesBox wsX8_takesBox rm_X8_takesBox (g_Pc D (g_tys cI cM) (ww_X8_takesBox cI cM a_this a_this_all a_this_past a_this_refused a_this_box a_this_row a_this_text a_this_numbers a_this_before v_states v_empty v_cut v_rowMany v_taken v_found v_textLong v_at v_stopped v_all v_box v_row) sz [.ref a_this]) (g_QV D (g_tys cI cM) (va_A (ww_X8_takesBox cI cM a_this a_this_all a_this_past a_this_refused a_this_box a_this_row a_this_text a_this_numbers a_this_before v_states v_empty v_cut v_rowMany v_taken v_found v_textLong v_at v_stopped v_all v_box v_row) sz) (ww_X8_takesBox cI cM a_this a_this_all a_this_past a_this_refused a_this_box a_this_row a_this_text a_this_numbers a_this_before v_states o_empty o_cut o_rowMany o_taken o_found v_textLong v_at v_stopped v_all o_box o_row)) 0 0 (va_A (ww_X8_takesBox cI cM a_this a_this_all a_this_past a_this_refused a_this_box a_this_row a_this_text a_this_numbers a_this_before v_states v_empty v_cut v_rowMany v_taken v_found v_textLong v_at v_stopped v_all v_box v_row) sz) := by
  refine g_met (cc := cX8_takesBox) (maxL := 6) (ret := none) (Qc := fun D A => g_QV D (g_tys cI cM) A (ww_X8_takesBox cI cM a_this a_this_all a_this_past a_this_refused a_this_box a_this_row a_this_text a_this_numbers a_this_before v_states o_empty o_cut o_rowMany o_taken o_found v_textLong v_at v_stopped v_all o_box o_row)) (by decide) rfl ?_
  intro p e s m below meth c A C0 hA hK hP hD
  have hl := lv_entry ([.ref a_this]) (n := 6) (Nat.le_of_ble_eq_true rfl)
  rw [lg_entry_eq]
  generalize (lg_sl ([.ref a_this]) ++ List.replicate (6 - (lg_sl ([.ref a_this])).length) Slot.unset).toArray = ls at hl ⊢
  have hl : lv_has ls 6 [(0, .ref a_this)] := hl
  exact w_X8_takesBox_B0 C0 hA hK v_empty v_cut v_rowMany v_taken v_found v_box v_row s.heap [] ls hf hP hD va_S.rf (lv_sub hl [0] rfl)
/-! FloatBoxesModel.solve(I)V -/
abbrev rm_X8_solve : Room := { frames := 12, cells := 0, slots := 0, locals := 295 }
abbrev ww_X8_solve (cI cM : ClassId) (a_this a_this_all a_this_past a_this_refused a_this_box a_this_row a_this_text a_this_numbers a_this_before : Nat) (v_states : Int32) (v_empty : Int32) (v_cut : Int32) (v_rowMany : Int32) (v_taken : Int32) (v_found : Int32) (v_textLong : Int32) (v_at : Int32) (v_stopped : Int32) (v_all : Nat → Int32) (v_box : Nat → Int32) (v_row : Nat → Int32) : va_W := [(a_this, .inr (6, [.ref a_this_all, .ref a_this_past, .int v_states, .ref a_this_refused, .ref a_this_box, .int v_empty, .int v_cut, .ref a_this_row, .int v_rowMany, .int v_taken, .int v_found, .ref a_this_text, .int v_textLong, .int v_at, .ref a_this_numbers, .int v_stopped, .ref a_this_before])), (a_this_all, .inl (cI, 38, .inl v_all)), (a_this_box, .inl (cI, 12, .inl v_box)), (a_this_row, .inl (cI, 768, .inl v_row))]
def f_X8_solve_C26 (N : Nat) (v_all : Nat → Int32) (k26 : Int32 → Int32 → Int32 → Int32 → Int32 → (Nat → Int32) → (Nat → Int32) → Int32 → Option (Int32 × Int32 × Int32 × Int32 × Int32 × (Nat → Int32) × (Nat → Int32))) (v_empty : Int32) (v_cut : Int32) (v_rowMany : Int32) (v_taken : Int32) (v_found : Int32) (v_box : Nat → Int32) (v_row : Nat → Int32) (x1 : Int32) : Option (Int32 × Int32 × Int32 × Int32 × Int32 × (Nat → Int32) × (Nat → Int32)) :=
  if v_found = 0 then
    if v_rowMany ≤ 0 then
      some (v_empty, v_cut, v_rowMany, v_taken, v_found, v_box, v_row)
    else
      if x1 ≤ v_taken then
        some (v_empty, v_cut, v_rowMany, v_taken, v_found, v_box, v_row)
      else
        o_b7 (f_X8_takesBox N v_all v_empty v_cut v_rowMany v_taken v_found v_box v_row) (fun (v_empty_49 : Int32) (v_cut_49 : Int32) (v_rowMany_49 : Int32) (v_taken_49 : Int32) (v_found_49 : Int32) (v_box_49 : Nat → Int32) (v_row_49 : Nat → Int32) =>
        k26 v_empty_49 v_cut_49 v_rowMany_49 v_taken_49 v_found_49 v_box_49 v_row_49 x1)
  else
    some (v_empty, v_cut, v_rowMany, v_taken, v_found, v_box, v_row)
def f_X8_solve_L26 (N : Nat) (v_all : Nat → Int32) : Nat → Int32 → Int32 → Int32 → Int32 → Int32 → (Nat → Int32) → (Nat → Int32) → Int32 → Option (Int32 × Int32 × Int32 × Int32 × Int32 × (Nat → Int32) × (Nat → Int32))
  | 0 => fun _ _ _ _ _ _ _ _ => none
  | n + 1 => f_X8_solve_C26 N v_all (f_X8_solve_L26 N v_all n)
set_option maxHeartbeats 4000000 in
set_option maxRecDepth 100000 in
theorem w_X8_solve_C26 {p : Program} {l : Launch} {e : Env} {s : State} {m : MethodId} {args : Array Value} {below : List Frame} {meth : Method} {c : Code} {D : va_G} {cI cM : ClassId} {A : Nat → Prop} {a_this a_this_all a_this_past a_this_refused a_this_box a_this_row a_this_text a_this_numbers a_this_before : Nat} {v_states : Int32} {v_textLong : Int32} {v_at : Int32} {v_stopped : Int32} {N : Nat} {v_all : Nat → Int32} {o_empty : Int32} {o_cut : Int32} {o_rowMany : Int32} {o_taken : Int32} {o_found : Int32} {o_box : Nat → Int32} {o_row : Nat → Int32} (C0 : g_cx cX8_solve none 2 RX8 wsX8_solve p s m args meth c) (hA : ∀ q, s.heap.size ≤ q → A q) (hK : va_K D vwCl (g_tys cI cM) s) (k26 : Int32 → Int32 → Int32 → Int32 → Int32 → (Nat → Int32) → (Nat → Int32) → Int32 → Option (Int32 × Int32 × Int32 × Int32 × Int32 × (Nat → Int32) × (Nat → Int32))) (hk26 : ∀ (v_empty : Int32) (v_cut : Int32) (v_rowMany : Int32) (v_taken : Int32) (v_found : Int32) (v_box : Nat → Int32) (v_row : Nat → Int32) (x1 : Int32) (H : Heap) (locs : List Loc) (ls : Array Slot), k26 v_empty v_cut v_rowMany v_taken v_found v_box v_row x1 = some (o_empty, o_cut, o_rowMany, o_taken, o_found, o_box, o_row) → va_P D vwCl (ww_X8_solve cI cM a_this a_this_all a_this_past a_this_refused a_this_box a_this_row a_this_text a_this_numbers a_this_before v_states v_empty v_cut v_rowMany v_taken v_found v_textLong v_at v_stopped v_all v_box v_row) H → va_D A (ww_X8_solve cI cM a_this a_this_all a_this_past a_this_refused a_this_box a_this_row a_this_text a_this_numbers a_this_before v_states v_empty v_cut v_rowMany v_taken v_found v_textLong v_at v_stopped v_all v_box v_row) → va_S A s.heap H locs → lv_has ls 2 [(0, .ref a_this), (1, .int x1)] → W p l e rm_X8_solve s m args below meth c H locs 0 0 (MQ below (g_QV D (g_tys cI cM) A (ww_X8_solve cI cM a_this a_this_all a_this_past a_this_refused a_this_box a_this_row a_this_text a_this_numbers a_this_before v_states o_empty o_cut o_rowMany o_taken o_found v_textLong v_at v_stopped v_all o_box o_row)) args s 0 0 A) (F0 m 26 ls [])) : ∀ (v_empty : Int32) (v_cut : Int32) (v_rowMany : Int32) (v_taken : Int32) (v_found : Int32) (v_box : Nat → Int32) (v_row : Nat → Int32) (x1 : Int32) (H : Heap) (locs : List Loc) (ls : Array Slot), f_X8_solve_C26 N v_all k26 v_empty v_cut v_rowMany v_taken v_found v_box v_row x1 = some (o_empty, o_cut, o_rowMany, o_taken, o_found, o_box, o_row) → va_P D vwCl (ww_X8_solve cI cM a_this a_this_all a_this_past a_this_refused a_this_box a_this_row a_this_text a_this_numbers a_this_before v_states v_empty v_cut v_rowMany v_taken v_found v_textLong v_at v_stopped v_all v_box v_row) H → va_D A (ww_X8_solve cI cM a_this a_this_all a_this_past a_this_refused a_this_box a_this_row a_this_text a_this_numbers a_this_before v_states v_empty v_cut v_rowMany v_taken v_found v_textLong v_at v_stopped v_all v_box v_row) → va_S A s.heap H locs → lv_has ls 2 [(0, .ref a_this), (1, .int x1)] → W p l e rm_X8_solve s m args below meth c H locs 0 0 (MQ below (g_QV D (g_tys cI cM) A (ww_X8_solve cI cM a_this a_this_all a_this_past a_this_refused a_this_box a_this_row a_this_text a_this_numbers a_this_before v_states o_empty o_cut o_rowMany o_taken o_found v_textLong v_at v_stopped v_all o_box o_row)) args s 0 0 A) (F0 m 26 ls []) := by
  obtain ⟨hx, hb, hr, hml, hown, hts, hlocks⟩ := id C0
  intro v_empty v_cut v_rowMany v_taken v_found v_box v_row x1 H locs ls hf hP hD hS hl
  unfold f_X8_solve_C26 at hf
  refine lv_aload_n hx hb dX8_solve_26 rfl (lv_at hl 0 rfl) ?_
  refine va_get (D := D) (ci := 6) (v := .int v_found) (C := RX8) (T := TX8) (N := 17) hx hb hts (fun _ h => (List.mem_cons_of_mem _ (List.mem_append_right _ h))) hown hK hP 0 rfl rfl 10 (by decide) (hts (.fieldLink RX8 247 "FloatBoxesModel" "found" "Z") (List.mem_cons_of_mem _ (List.mem_append_left _ (List.mem_append_left _ (List.mem_of_getElem? (i := 2) rfl))))) (fun _ h9 => h9) rfl dX8_solve_27 ?_
  refine lv_if_ne (tgt := 55) hx hb dX8_solve_30 (by decide) (fun c30 => ?_) (fun c30 => ?_)
  · replace hf := o_f c30 hf
    obtain ⟨q0, y0⟩ := o_rp hf
    obtain ⟨q1, y1⟩ := o_rp y0
    obtain ⟨q2, y2⟩ := o_rp y1
    obtain ⟨q3, y3⟩ := o_rp y2
    obtain ⟨q4, y4⟩ := o_rp y3
    obtain ⟨q5, y5⟩ := o_rp y4
    have q6 := Option.some.inj y5
    subst q0 q1 q2 q3 q4 q5 q6
    exact g_vret hx hb hr hlocks hP hD hK hS dX8_solve_55
  · replace hf := o_t c30 hf
    refine lv_aload_n hx hb dX8_solve_33 rfl (lv_at hl 0 rfl) ?_
    refine va_get (D := D) (ci := 6) (v := .int v_rowMany) (C := RX8) (T := TX8) (N := 17) hx hb hts (fun _ h => (List.mem_cons_of_mem _ (List.mem_append_right _ h))) hown hK hP 0 rfl rfl 8 (by decide) (hts (.fieldLink RX8 234 "FloatBoxesModel" "rowMany" "I") (List.mem_cons_of_mem _ (List.mem_append_left _ (List.mem_append_left _ (List.mem_of_getElem? (i := 0) rfl))))) (fun _ h9 => h9) rfl dX8_solve_34 ?_
    refine lv_if_le (tgt := 55) hx hb dX8_solve_37 (by decide) (fun c37 => ?_) (fun c37 => ?_)
    · replace hf := o_t c37 hf
      obtain ⟨q0, y0⟩ := o_rp hf
      obtain ⟨q1, y1⟩ := o_rp y0
      obtain ⟨q2, y2⟩ := o_rp y1
      obtain ⟨q3, y3⟩ := o_rp y2
      obtain ⟨q4, y4⟩ := o_rp y3
      obtain ⟨q5, y5⟩ := o_rp y4
      have q6 := Option.some.inj y5
      subst q0 q1 q2 q3 q4 q5 q6
      exact g_vret hx hb hr hlocks hP hD hK hS dX8_solve_55
    · replace hf := o_f c37 hf
      refine lv_aload_n hx hb dX8_solve_40 rfl (lv_at hl 0 rfl) ?_
      refine va_get (D := D) (ci := 6) (v := .int v_taken) (C := RX8) (T := TX8) (N := 17) hx hb hts (fun _ h => (List.mem_cons_of_mem _ (List.mem_append_right _ h))) hown hK hP 0 rfl rfl 9 (by decide) (hts (.fieldLink RX8 237 "FloatBoxesModel" "taken" "I") (List.mem_cons_of_mem _ (List.mem_append_left _ (List.mem_append_left _ (List.mem_of_getElem? (i := 1) rfl))))) (fun _ h9 => h9) rfl dX8_solve_41 ?_
      refine lv_iload_n hx hb dX8_solve_44 rfl (lv_at hl 1 rfl) ?_
      refine lv_icmp_ge (tgt := 55) hx hb dX8_solve_45 (by decide) (fun c45 => ?_) (fun c45 => ?_)
      · replace hf := o_t c45 hf
        obtain ⟨q0, y0⟩ := o_rp hf
        obtain ⟨q1, y1⟩ := o_rp y0
        obtain ⟨q2, y2⟩ := o_rp y1
        obtain ⟨q3, y3⟩ := o_rp y2
        obtain ⟨q4, y4⟩ := o_rp y3
        obtain ⟨q5, y5⟩ := o_rp y4
        have q6 := Option.some.inj y5
        subst q0 q1 q2 q3 q4 q5 q6
        exact g_vret hx hb hr hlocks hP hD hK hS dX8_solve_55
      · replace hf := o_f c45 hf
        refine lv_aload_n hx hb dX8_solve_48 rfl (lv_at hl 0 rfl) ?_
        obtain ⟨v_empty_49, v_cut_49, v_rowMany_49, v_taken_49, v_found_49, v_box_49, v_row_49, hg49, hf⟩ := o_b7_go hf
        refine g_callVv (wn := (ww_X8_solve cI cM a_this a_this_all a_this_past a_this_refused a_this_box a_this_row a_this_text a_this_numbers a_this_before v_states v_empty_49 v_cut_49 v_rowMany_49 v_taken_49 v_found_49 v_textLong v_at v_stopped v_all v_box_49 v_row_49)) (rest := []) ⟨hx, hb, hml, hown, hts⟩ (c_X8_takesBox l D cI cM a_this a_this_all a_this_past a_this_refused a_this_box a_this_row a_this_text a_this_numbers a_this_before H.size v_states v_empty v_cut v_rowMany v_taken v_found v_textLong v_at v_stopped v_all v_box v_row hg49) (cwV 0 hts gX8_solve_X8_takesBox rfl rfl rfl (by decide +kernel) ⟨Nat.le_of_ble_eq_true rfl, Nat.le_of_ble_eq_true rfl⟩) hK hP hD hS hA [0, 1, 2, 3] [] [0, 1, 2, 3] rfl rfl rfl rfl rfl rfl (by decide) rfl rfl rfl hl.1 rfl (Nat.le_of_ble_eq_true rfl) dX8_solve_49 (fun H locs hP hD hS => ?_)
        refine lv_goto (tgt := 26) hx hb dX8_solve_52 (by decide) ?_
        exact hk26 v_empty_49 v_cut_49 v_rowMany_49 v_taken_49 v_found_49 v_box_49 v_row_49 x1 H locs ls hf hP hD hS (lv_sub hl [0, 1] rfl)
set_option maxHeartbeats 4000000 in
set_option maxRecDepth 100000 in
theorem w_X8_solve_L26 {p : Program} {l : Launch} {e : Env} {s : State} {m : MethodId} {args : Array Value} {below : List Frame} {meth : Method} {c : Code} {D : va_G} {cI cM : ClassId} {A : Nat → Prop} {a_this a_this_all a_this_past a_this_refused a_this_box a_this_row a_this_text a_this_numbers a_this_before : Nat} {v_states : Int32} {v_textLong : Int32} {v_at : Int32} {v_stopped : Int32} {N : Nat} {v_all : Nat → Int32} {o_empty : Int32} {o_cut : Int32} {o_rowMany : Int32} {o_taken : Int32} {o_found : Int32} {o_box : Nat → Int32} {o_row : Nat → Int32} (C0 : g_cx cX8_solve none 2 RX8 wsX8_solve p s m args meth c) (hA : ∀ q, s.heap.size ≤ q → A q) (hK : va_K D vwCl (g_tys cI cM) s) : ∀ n : Nat, ∀ (v_empty : Int32) (v_cut : Int32) (v_rowMany : Int32) (v_taken : Int32) (v_found : Int32) (v_box : Nat → Int32) (v_row : Nat → Int32) (x1 : Int32) (H : Heap) (locs : List Loc) (ls : Array Slot), f_X8_solve_L26 N v_all n v_empty v_cut v_rowMany v_taken v_found v_box v_row x1 = some (o_empty, o_cut, o_rowMany, o_taken, o_found, o_box, o_row) → va_P D vwCl (ww_X8_solve cI cM a_this a_this_all a_this_past a_this_refused a_this_box a_this_row a_this_text a_this_numbers a_this_before v_states v_empty v_cut v_rowMany v_taken v_found v_textLong v_at v_stopped v_all v_box v_row) H → va_D A (ww_X8_solve cI cM a_this a_this_all a_this_past a_this_refused a_this_box a_this_row a_this_text a_this_numbers a_this_before v_states v_empty v_cut v_rowMany v_taken v_found v_textLong v_at v_stopped v_all v_box v_row) → va_S A s.heap H locs → lv_has ls 2 [(0, .ref a_this), (1, .int x1)] → W p l e rm_X8_solve s m args below meth c H locs 0 0 (MQ below (g_QV D (g_tys cI cM) A (ww_X8_solve cI cM a_this a_this_all a_this_past a_this_refused a_this_box a_this_row a_this_text a_this_numbers a_this_before v_states o_empty o_cut o_rowMany o_taken o_found v_textLong v_at v_stopped v_all o_box o_row)) args s 0 0 A) (F0 m 26 ls []) := by
  intro n
  induction n with
  | zero =>
    intro v_empty v_cut v_rowMany v_taken v_found v_box v_row x1 H locs ls hf
    exact absurd hf (fun h => nomatch h)
  | succ n ih =>
    intro v_empty v_cut v_rowMany v_taken v_found v_box v_row x1 H locs ls hf
    exact w_X8_solve_C26 C0 hA hK _ ih v_empty v_cut v_rowMany v_taken v_found v_box v_row x1 H locs ls hf
def f_X8_solve (N : Nat) (v_all : Nat → Int32) (v_empty : Int32) (v_cut : Int32) (v_rowMany : Int32) (v_taken : Int32) (v_found : Int32) (v_box : Nat → Int32) (v_row : Nat → Int32) (x1 : Int32) : Option (Int32 × Int32 × Int32 × Int32 × Int32 × (Nat → Int32) × (Nat → Int32)) :=
  o_b2 (f_X8_laysBox N v_all v_empty v_box) (fun (v_empty_1 : Int32) (v_box_1 : Nat → Int32) =>
  o_b2 (f_X8_puts N v_box_1 0 v_row ((-1)) 0 0) (fun (v_rowMany_23 : Int32) (v_row_23 : Nat → Int32) =>
  f_X8_solve_L26 N v_all N v_empty_1 v_cut v_rowMany_23 0 0 v_box_1 v_row_23 x1))
set_option maxHeartbeats 4000000 in
set_option maxRecDepth 100000 in
theorem w_X8_solve_B0 {p : Program} {l : Launch} {e : Env} {s : State} {m : MethodId} {args : Array Value} {below : List Frame} {meth : Method} {c : Code} {D : va_G} {cI cM : ClassId} {A : Nat → Prop} {a_this a_this_all a_this_past a_this_refused a_this_box a_this_row a_this_text a_this_numbers a_this_before : Nat} {v_states : Int32} {v_textLong : Int32} {v_at : Int32} {v_stopped : Int32} {N : Nat} {v_all : Nat → Int32} {o_empty : Int32} {o_cut : Int32} {o_rowMany : Int32} {o_taken : Int32} {o_found : Int32} {o_box : Nat → Int32} {o_row : Nat → Int32} (C0 : g_cx cX8_solve none 2 RX8 wsX8_solve p s m args meth c) (hA : ∀ q, s.heap.size ≤ q → A q) (hK : va_K D vwCl (g_tys cI cM) s) : ∀ (v_empty : Int32) (v_cut : Int32) (v_rowMany : Int32) (v_taken : Int32) (v_found : Int32) (v_box : Nat → Int32) (v_row : Nat → Int32) (x1 : Int32) (H : Heap) (locs : List Loc) (ls : Array Slot), f_X8_solve N v_all v_empty v_cut v_rowMany v_taken v_found v_box v_row x1 = some (o_empty, o_cut, o_rowMany, o_taken, o_found, o_box, o_row) → va_P D vwCl (ww_X8_solve cI cM a_this a_this_all a_this_past a_this_refused a_this_box a_this_row a_this_text a_this_numbers a_this_before v_states v_empty v_cut v_rowMany v_taken v_found v_textLong v_at v_stopped v_all v_box v_row) H → va_D A (ww_X8_solve cI cM a_this a_this_all a_this_past a_this_refused a_this_box a_this_row a_this_text a_this_numbers a_this_before v_states v_empty v_cut v_rowMany v_taken v_found v_textLong v_at v_stopped v_all v_box v_row) → va_S A s.heap H locs → lv_has ls 2 [(0, .ref a_this), (1, .int x1)] → W p l e rm_X8_solve s m args below meth c H locs 0 0 (MQ below (g_QV D (g_tys cI cM) A (ww_X8_solve cI cM a_this a_this_all a_this_past a_this_refused a_this_box a_this_row a_this_text a_this_numbers a_this_before v_states o_empty o_cut o_rowMany o_taken o_found v_textLong v_at v_stopped v_all o_box o_row)) args s 0 0 A) (F0 m 0 ls []) := by
  obtain ⟨hx, hb, hr, hml, hown, hts, hlocks⟩ := id C0
  intro v_empty v_cut v_rowMany v_taken v_found v_box v_row x1 H locs ls hf hP hD hS hl
  unfold f_X8_solve at hf
  refine lv_aload_n hx hb dX8_solve_0 rfl (lv_at hl 0 rfl) ?_
  obtain ⟨v_empty_1, v_box_1, hg1, hf⟩ := o_b2_go hf
  refine g_callVv (wn := (ww_X8_solve cI cM a_this a_this_all a_this_past a_this_refused a_this_box a_this_row a_this_text a_this_numbers a_this_before v_states v_empty_1 v_cut v_rowMany v_taken v_found v_textLong v_at v_stopped v_all v_box_1 v_row)) (rest := []) ⟨hx, hb, hml, hown, hts⟩ (c_X8_laysBox l D cI cM a_this a_this_all a_this_past a_this_refused a_this_box a_this_row a_this_text a_this_numbers a_this_before H.size v_states v_empty v_cut v_rowMany v_taken v_found v_textLong v_at v_stopped v_all v_box hg1) (cwV 0 hts gX8_solve_X8_laysBox rfl rfl rfl (by decide +kernel) ⟨Nat.le_of_ble_eq_true rfl, Nat.le_of_ble_eq_true rfl⟩) hK hP hD hS hA [0, 1, 2] [3] [1, 2, 3, 0] rfl rfl rfl rfl rfl rfl (by decide) rfl rfl rfl hl.1 rfl (Nat.le_of_ble_eq_true rfl) dX8_solve_1 (fun H locs hP hD hS => ?_)
  refine lv_aload_n hx hb dX8_solve_4 rfl (lv_at hl 0 rfl) ?_
  refine lv_iconst (v := 0) hx hb dX8_solve_5 (by decide) ?_
  refine va_put (D := D) (ci := 6) (v := .int 0) (ty := .int) (C := RX8) (T := TX8) (N := 17) hx hb hts (fun _ h => (List.mem_cons_of_mem _ (List.mem_append_right _ h))) tyX8 tyX8_ok nmX8 hown hK hP hD hS 0 rfl rfl 8 (by decide) (hts (.fieldLink RX8 234 "FloatBoxesModel" "rowMany" "I") (List.mem_cons_of_mem _ (List.mem_append_left _ (List.mem_append_left _ (List.mem_of_getElem? (i := 0) rfl))))) (fun _ h9 => h9) rfl (by decide +kernel) rfl rfl (Nat.le_of_ble_eq_true rfl) dX8_solve_6 (fun H locs hP hD hS => ?_)
  replace hP : va_P D vwCl (ww_X8_solve cI cM a_this a_this_all a_this_past a_this_refused a_this_box a_this_row a_this_text a_this_numbers a_this_before v_states v_empty_1 v_cut 0 v_taken v_found v_textLong v_at v_stopped v_all v_box_1 v_row) H := hP
  replace hD : va_D A (ww_X8_solve cI cM a_this a_this_all a_this_past a_this_refused a_this_box a_this_row a_this_text a_this_numbers a_this_before v_states v_empty_1 v_cut 0 v_taken v_found v_textLong v_at v_stopped v_all v_box_1 v_row) := hD
  refine lv_aload_n hx hb dX8_solve_9 rfl (lv_at hl 0 rfl) ?_
  refine lv_iconst (v := 0) hx hb dX8_solve_10 (by decide) ?_
  refine va_put (D := D) (ci := 6) (v := .int 0) (ty := .int) (C := RX8) (T := TX8) (N := 17) hx hb hts (fun _ h => (List.mem_cons_of_mem _ (List.mem_append_right _ h))) tyX8 tyX8_ok nmX8 hown hK hP hD hS 0 rfl rfl 9 (by decide) (hts (.fieldLink RX8 237 "FloatBoxesModel" "taken" "I") (List.mem_cons_of_mem _ (List.mem_append_left _ (List.mem_append_left _ (List.mem_of_getElem? (i := 1) rfl))))) (fun _ h9 => h9) rfl (by decide +kernel) rfl rfl (Nat.le_of_ble_eq_true rfl) dX8_solve_11 (fun H locs hP hD hS => ?_)
  replace hP : va_P D vwCl (ww_X8_solve cI cM a_this a_this_all a_this_past a_this_refused a_this_box a_this_row a_this_text a_this_numbers a_this_before v_states v_empty_1 v_cut 0 0 v_found v_textLong v_at v_stopped v_all v_box_1 v_row) H := hP
  replace hD : va_D A (ww_X8_solve cI cM a_this a_this_all a_this_past a_this_refused a_this_box a_this_row a_this_text a_this_numbers a_this_before v_states v_empty_1 v_cut 0 0 v_found v_textLong v_at v_stopped v_all v_box_1 v_row) := hD
  refine lv_aload_n hx hb dX8_solve_14 rfl (lv_at hl 0 rfl) ?_
  refine lv_iconst (v := 0) hx hb dX8_solve_15 (by decide) ?_
  refine va_put (D := D) (ci := 6) (v := .int 0) (ty := .boolean) (C := RX8) (T := TX8) (N := 17) hx hb hts (fun _ h => (List.mem_cons_of_mem _ (List.mem_append_right _ h))) tyX8 tyX8_ok nmX8 hown hK hP hD hS 0 rfl rfl 10 (by decide) (hts (.fieldLink RX8 247 "FloatBoxesModel" "found" "Z") (List.mem_cons_of_mem _ (List.mem_append_left _ (List.mem_append_left _ (List.mem_of_getElem? (i := 2) rfl))))) (fun _ h9 => h9) rfl (by decide +kernel) (by decide) (by decide) (Nat.le_of_ble_eq_true rfl) dX8_solve_16 (fun H locs hP hD hS => ?_)
  replace hP : va_P D vwCl (ww_X8_solve cI cM a_this a_this_all a_this_past a_this_refused a_this_box a_this_row a_this_text a_this_numbers a_this_before v_states v_empty_1 v_cut 0 0 0 v_textLong v_at v_stopped v_all v_box_1 v_row) H := hP
  replace hD : va_D A (ww_X8_solve cI cM a_this a_this_all a_this_past a_this_refused a_this_box a_this_row a_this_text a_this_numbers a_this_before v_states v_empty_1 v_cut 0 0 0 v_textLong v_at v_stopped v_all v_box_1 v_row) := hD
  refine lv_aload_n hx hb dX8_solve_19 rfl (lv_at hl 0 rfl) ?_
  refine lv_iconst (v := (-1)) hx hb dX8_solve_20 (by decide) ?_
  refine lv_iconst (v := 0) hx hb dX8_solve_21 (by decide) ?_
  refine lv_iconst (v := 0) hx hb dX8_solve_22 (by decide) ?_
  obtain ⟨v_rowMany_23, v_row_23, hg23, hf⟩ := o_b2_go hf
  refine g_callVv (wn := (ww_X8_solve cI cM a_this a_this_all a_this_past a_this_refused a_this_box a_this_row a_this_text a_this_numbers a_this_before v_states v_empty_1 v_cut v_rowMany_23 0 0 v_textLong v_at v_stopped v_all v_box_1 v_row_23)) (rest := []) ⟨hx, hb, hml, hown, hts⟩ (c_X8_puts l D cI cM a_this a_this_all a_this_past a_this_refused a_this_box a_this_row a_this_text a_this_numbers a_this_before H.size v_states v_empty_1 v_cut 0 0 0 v_textLong v_at v_stopped v_row v_box_1 hg23) (cwV 3 hts gX8_solve_X8_puts rfl rfl rfl (by decide +kernel) ⟨Nat.le_of_ble_eq_true rfl, Nat.le_of_ble_eq_true rfl⟩) hK hP hD hS hA [0, 3, 2] [1] [1, 0, 3, 2] rfl rfl rfl rfl rfl rfl (by decide) rfl rfl rfl hl.1 rfl (Nat.le_of_ble_eq_true rfl) dX8_solve_23 (fun H locs hP hD hS => ?_)
  exact w_X8_solve_L26 C0 hA hK N v_empty_1 v_cut v_rowMany_23 0 0 v_box_1 v_row_23 x1 H locs ls hf hP hD hS (lv_sub hl [0, 1] rfl)
set_option maxHeartbeats 4000000 in
set_option maxRecDepth 100000 in
theorem c_X8_solve (l : Launch) (D : va_G) (cI cM : ClassId) (a_this a_this_all a_this_past a_this_refused a_this_box a_this_row a_this_text a_this_numbers a_this_before : Nat) (sz : Nat) (v_states : Int32) (v_empty : Int32) (v_cut : Int32) (v_rowMany : Int32) (v_taken : Int32) (v_found : Int32) (v_textLong : Int32) (v_at : Int32) (v_stopped : Int32) (v_all : Nat → Int32) (v_box : Nat → Int32) (v_row : Nat → Int32) {N : Nat} {x1 : Int32} {o_empty : Int32} {o_cut : Int32} {o_rowMany : Int32} {o_taken : Int32} {o_found : Int32} {o_box : Nat → Int32} {o_row : Nat → Int32} (hf : f_X8_solve N v_all v_empty v_cut v_rowMany v_taken v_found v_box v_row x1 = some (o_empty, o_cut, o_rowMany, o_taken, o_found, o_box, o_row)) : Met l yX8_solve wsX8_solve rm_X8_solve (g_Pc D (g_tys cI cM) (ww_X8_solve cI cM a_this a_this_all a_this_past a_this_refused a_this_box a_this_row a_this_text a_this_numbers a_this_before v_states v_empty v_cut v_rowMany v_taken v_found v_textLong v_at v_stopped v_all v_box v_row) sz [.ref a_this, .int x1]) (g_QV D (g_tys cI cM) (va_A (ww_X8_solve cI cM a_this a_this_all a_this_past a_this_refused a_this_box a_this_row a_this_text a_this_numbers a_this_before v_states v_empty v_cut v_rowMany v_taken v_found v_textLong v_at v_stopped v_all v_box v_row) sz) (ww_X8_solve cI cM a_this a_this_all a_this_past a_this_refused a_this_box a_this_row a_this_text a_this_numbers a_this_before v_states o_empty o_cut o_rowMany o_taken o_found v_textLong v_at v_stopped v_all o_box o_row)) 0 0 (va_A (ww_X8_solve cI cM a_this a_this_all a_this_past a_this_refused a_this_box a_this_row a_this_text a_this_numbers a_this_before v_states v_empty v_cut v_rowMany v_taken v_found v_textLong v_at v_stopped v_all v_box v_row) sz) := by
  refine g_met (cc := cX8_solve) (maxL := 2) (ret := none) (Qc := fun D A => g_QV D (g_tys cI cM) A (ww_X8_solve cI cM a_this a_this_all a_this_past a_this_refused a_this_box a_this_row a_this_text a_this_numbers a_this_before v_states o_empty o_cut o_rowMany o_taken o_found v_textLong v_at v_stopped v_all o_box o_row)) (by decide) rfl ?_
  intro p e s m below meth c A C0 hA hK hP hD
  have hl := lv_entry ([.ref a_this, .int x1]) (n := 2) (Nat.le_of_ble_eq_true rfl)
  rw [lg_entry_eq]
  generalize (lg_sl ([.ref a_this, .int x1]) ++ List.replicate (2 - (lg_sl ([.ref a_this, .int x1])).length) Slot.unset).toArray = ls at hl ⊢
  have hl : lv_has ls 2 [(0, .ref a_this), (1, .int x1)] := hl
  exact w_X8_solve_B0 C0 hA hK v_empty v_cut v_rowMany v_taken v_found v_box v_row x1 s.heap [] ls hf hP hD va_S.rf (lv_sub hl [0, 1] rfl)
/-! FloatBoxesModel.solved(II)I -/
abbrev rm_X8_solved : Room := { frames := 13, cells := 0, slots := 0, locals := 316 }
abbrev ww_X8_solved (cI cM : ClassId) (a_this a_this_all a_this_past a_this_refused a_this_box a_this_row a_this_text a_this_numbers a_this_before : Nat) (v_states : Int32) (v_empty : Int32) (v_cut : Int32) (v_rowMany : Int32) (v_taken : Int32) (v_found : Int32) (v_textLong : Int32) (v_at : Int32) (v_stopped : Int32) (v_all : Nat → Int32) (v_box : Nat → Int32) (v_row : Nat → Int32) : va_W := [(a_this, .inr (6, [.ref a_this_all, .ref a_this_past, .int v_states, .ref a_this_refused, .ref a_this_box, .int v_empty, .int v_cut, .ref a_this_row, .int v_rowMany, .int v_taken, .int v_found, .ref a_this_text, .int v_textLong, .int v_at, .ref a_this_numbers, .int v_stopped, .ref a_this_before])), (a_this_all, .inl (cI, 38, .inl v_all)), (a_this_box, .inl (cI, 12, .inl v_box)), (a_this_row, .inl (cI, 768, .inl v_row))]
def f_X8_solved (N : Nat) (v_all : Nat → Int32) (v_empty : Int32) (v_cut : Int32) (v_rowMany : Int32) (v_taken : Int32) (v_found : Int32) (v_box : Nat → Int32) (v_row : Nat → Int32) (x1 : Int32) (x2 : Int32) : Option (Int32 × Int32 × Int32 × Int32 × Int32 × Int32 × (Nat → Int32) × (Nat → Int32)) :=
  o_b7 (f_X8_solve N v_all v_empty v_cut v_rowMany v_taken v_found v_box v_row x1) (fun (v_empty_2 : Int32) (v_cut_2 : Int32) (v_rowMany_2 : Int32) (v_taken_2 : Int32) (v_found_2 : Int32) (v_box_2 : Nat → Int32) (v_row_2 : Nat → Int32) =>
  if x2 = 0 then
    if v_found_2 = 0 then
      if v_rowMany_2 = 0 then
        some (1, v_empty_2, v_cut_2, v_rowMany_2, v_taken_2, v_found_2, v_box_2, v_row_2)
      else
        some (2, v_empty_2, v_cut_2, v_rowMany_2, v_taken_2, v_found_2, v_box_2, v_row_2)
    else
      some (0, v_empty_2, v_cut_2, v_rowMany_2, v_taken_2, v_found_2, v_box_2, v_row_2)
  else
    if x2 = 1 then
      some (v_taken_2, v_empty_2, v_cut_2, v_rowMany_2, v_taken_2, v_found_2, v_box_2, v_row_2)
    else
      some (v_rowMany_2, v_empty_2, v_cut_2, v_rowMany_2, v_taken_2, v_found_2, v_box_2, v_row_2))
set_option maxHeartbeats 4000000 in
set_option maxRecDepth 100000 in
theorem w_X8_solved_B0 {p : Program} {l : Launch} {e : Env} {s : State} {m : MethodId} {args : Array Value} {below : List Frame} {meth : Method} {c : Code} {D : va_G} {cI cM : ClassId} {A : Nat → Prop} {a_this a_this_all a_this_past a_this_refused a_this_box a_this_row a_this_text a_this_numbers a_this_before : Nat} {v_states : Int32} {v_textLong : Int32} {v_at : Int32} {v_stopped : Int32} {N : Nat} {v_all : Nat → Int32} {r : Int32} {o_empty : Int32} {o_cut : Int32} {o_rowMany : Int32} {o_taken : Int32} {o_found : Int32} {o_box : Nat → Int32} {o_row : Nat → Int32} (C0 : g_cx cX8_solved (some .int) 3 RX8 wsX8_solved p s m args meth c) (hA : ∀ q, s.heap.size ≤ q → A q) (hK : va_K D vwCl (g_tys cI cM) s) : ∀ (v_empty : Int32) (v_cut : Int32) (v_rowMany : Int32) (v_taken : Int32) (v_found : Int32) (v_box : Nat → Int32) (v_row : Nat → Int32) (x1 : Int32) (x2 : Int32) (H : Heap) (locs : List Loc) (ls : Array Slot), f_X8_solved N v_all v_empty v_cut v_rowMany v_taken v_found v_box v_row x1 x2 = some (r, o_empty, o_cut, o_rowMany, o_taken, o_found, o_box, o_row) → va_P D vwCl (ww_X8_solved cI cM a_this a_this_all a_this_past a_this_refused a_this_box a_this_row a_this_text a_this_numbers a_this_before v_states v_empty v_cut v_rowMany v_taken v_found v_textLong v_at v_stopped v_all v_box v_row) H → va_D A (ww_X8_solved cI cM a_this a_this_all a_this_past a_this_refused a_this_box a_this_row a_this_text a_this_numbers a_this_before v_states v_empty v_cut v_rowMany v_taken v_found v_textLong v_at v_stopped v_all v_box v_row) → va_S A s.heap H locs → lv_has ls 3 [(0, .ref a_this), (1, .int x1), (2, .int x2)] → W p l e rm_X8_solved s m args below meth c H locs 0 0 (MQ below (g_QI D (g_tys cI cM) A (ww_X8_solved cI cM a_this a_this_all a_this_past a_this_refused a_this_box a_this_row a_this_text a_this_numbers a_this_before v_states o_empty o_cut o_rowMany o_taken o_found v_textLong v_at v_stopped v_all o_box o_row) r) args s 0 0 A) (F0 m 0 ls []) := by
  obtain ⟨hx, hb, hr, hml, hown, hts, hlocks⟩ := id C0
  intro v_empty v_cut v_rowMany v_taken v_found v_box v_row x1 x2 H locs ls hf hP hD hS hl
  unfold f_X8_solved at hf
  refine lv_aload_n hx hb dX8_solved_0 rfl (lv_at hl 0 rfl) ?_
  refine lv_iload_n hx hb dX8_solved_1 rfl (lv_at hl 1 rfl) ?_
  obtain ⟨v_empty_2, v_cut_2, v_rowMany_2, v_taken_2, v_found_2, v_box_2, v_row_2, hg2, hf⟩ := o_b7_go hf
  refine g_callVv (wn := (ww_X8_solved cI cM a_this a_this_all a_this_past a_this_refused a_this_box a_this_row a_this_text a_this_numbers a_this_before v_states v_empty_2 v_cut_2 v_rowMany_2 v_taken_2 v_found_2 v_textLong v_at v_stopped v_all v_box_2 v_row_2)) (rest := []) ⟨hx, hb, hml, hown, hts⟩ (c_X8_solve l D cI cM a_this a_this_all a_this_past a_this_refused a_this_box a_this_row a_this_text a_this_numbers a_this_before H.size v_states v_empty v_cut v_rowMany v_taken v_found v_textLong v_at v_stopped v_all v_box v_row hg2) (cwV 1 hts gX8_solved_X8_solve rfl rfl rfl (by decide +kernel) ⟨Nat.le_of_ble_eq_true rfl, Nat.le_of_ble_eq_true rfl⟩) hK hP hD hS hA [0, 1, 2, 3] [] [0, 1, 2, 3] rfl rfl rfl rfl rfl rfl (by decide) rfl rfl rfl hl.1 rfl (Nat.le_of_ble_eq_true rfl) dX8_solved_2 (fun H locs hP hD hS => ?_)
  refine lv_iload_n hx hb dX8_solved_5 rfl (lv_at hl 2 rfl) ?_
  refine lv_if_ne (tgt := 35) hx hb dX8_solved_6 (by decide) (fun c6 => ?_) (fun c6 => ?_)
  · replace hf := o_f c6 hf
    refine lv_iload_n hx hb dX8_solved_35 rfl (lv_at hl 2 rfl) ?_
    refine lv_iconst (v := 1) hx hb dX8_solved_36 (by decide) ?_
    refine lv_icmp_ne (tgt := 47) hx hb dX8_solved_37 (by decide) (fun c37 => ?_) (fun c37 => ?_)
    · replace hf := o_f c37 hf
      refine lv_aload_n hx hb dX8_solved_47 rfl (lv_at hl 0 rfl) ?_
      refine va_get (D := D) (ci := 6) (v := .int v_rowMany_2) (C := RX8) (T := TX8) (N := 17) hx hb hts (fun _ h => (List.mem_cons_of_mem _ (List.mem_append_right _ h))) hown hK hP 0 rfl rfl 8 (by decide) (hts (.fieldLink RX8 234 "FloatBoxesModel" "rowMany" "I") (List.mem_cons_of_mem _ (List.mem_append_left _ (List.mem_append_left _ (List.mem_of_getElem? (i := 1) rfl))))) (fun _ h9 => h9) rfl dX8_solved_48 ?_
      obtain ⟨q0, y0⟩ := o_rp hf
      obtain ⟨q1, y1⟩ := o_rp y0
      obtain ⟨q2, y2⟩ := o_rp y1
      obtain ⟨q3, y3⟩ := o_rp y2
      obtain ⟨q4, y4⟩ := o_rp y3
      obtain ⟨q5, y5⟩ := o_rp y4
      obtain ⟨q6, y6⟩ := o_rp y5
      have q7 := Option.some.inj y6
      subst q0 q1 q2 q3 q4 q5 q6 q7
      exact g_iret hx hb hr hlocks hP hD hK hS dX8_solved_51
    · replace hf := o_t c37 hf
      refine lv_aload_n hx hb dX8_solved_40 rfl (lv_at hl 0 rfl) ?_
      refine va_get (D := D) (ci := 6) (v := .int v_taken_2) (C := RX8) (T := TX8) (N := 17) hx hb hts (fun _ h => (List.mem_cons_of_mem _ (List.mem_append_right _ h))) hown hK hP 0 rfl rfl 9 (by decide) (hts (.fieldLink RX8 237 "FloatBoxesModel" "taken" "I") (List.mem_cons_of_mem _ (List.mem_append_left _ (List.mem_append_left _ (List.mem_of_getElem? (i := 2) rfl))))) (fun _ h9 => h9) rfl dX8_solved_41 ?_
      refine lv_goto (tgt := 51) hx hb dX8_solved_44 (by decide) ?_
      obtain ⟨q0, y0⟩ := o_rp hf
      obtain ⟨q1, y1⟩ := o_rp y0
      obtain ⟨q2, y2⟩ := o_rp y1
      obtain ⟨q3, y3⟩ := o_rp y2
      obtain ⟨q4, y4⟩ := o_rp y3
      obtain ⟨q5, y5⟩ := o_rp y4
      obtain ⟨q6, y6⟩ := o_rp y5
      have q7 := Option.some.inj y6
      subst q0 q1 q2 q3 q4 q5 q6 q7
      exact g_iret hx hb hr hlocks hP hD hK hS dX8_solved_51
  · replace hf := o_t c6 hf
    refine lv_aload_n hx hb dX8_solved_9 rfl (lv_at hl 0 rfl) ?_
    refine va_get (D := D) (ci := 6) (v := .int v_found_2) (C := RX8) (T := TX8) (N := 17) hx hb hts (fun _ h => (List.mem_cons_of_mem _ (List.mem_append_right _ h))) hown hK hP 0 rfl rfl 10 (by decide) (hts (.fieldLink RX8 247 "FloatBoxesModel" "found" "Z") (List.mem_cons_of_mem _ (List.mem_append_left _ (List.mem_append_left _ (List.mem_of_getElem? (i := 0) rfl))))) (fun _ h9 => h9) rfl dX8_solved_10 ?_
    refine lv_if_eq (tgt := 20) hx hb dX8_solved_13 (by decide) (fun c13 => ?_) (fun c13 => ?_)
    · replace hf := o_t c13 hf
      refine lv_aload_n hx hb dX8_solved_20 rfl (lv_at hl 0 rfl) ?_
      refine va_get (D := D) (ci := 6) (v := .int v_rowMany_2) (C := RX8) (T := TX8) (N := 17) hx hb hts (fun _ h => (List.mem_cons_of_mem _ (List.mem_append_right _ h))) hown hK hP 0 rfl rfl 8 (by decide) (hts (.fieldLink RX8 234 "FloatBoxesModel" "rowMany" "I") (List.mem_cons_of_mem _ (List.mem_append_left _ (List.mem_append_left _ (List.mem_of_getElem? (i := 1) rfl))))) (fun _ h9 => h9) rfl dX8_solved_21 ?_
      refine lv_if_ne (tgt := 31) hx hb dX8_solved_24 (by decide) (fun c24 => ?_) (fun c24 => ?_)
      · replace hf := o_f c24 hf
        refine lv_iconst (v := 2) hx hb dX8_solved_31 (by decide) ?_
        refine lv_goto (tgt := 51) hx hb dX8_solved_32 (by decide) ?_
        obtain ⟨q0, y0⟩ := o_rp hf
        obtain ⟨q1, y1⟩ := o_rp y0
        obtain ⟨q2, y2⟩ := o_rp y1
        obtain ⟨q3, y3⟩ := o_rp y2
        obtain ⟨q4, y4⟩ := o_rp y3
        obtain ⟨q5, y5⟩ := o_rp y4
        obtain ⟨q6, y6⟩ := o_rp y5
        have q7 := Option.some.inj y6
        subst q0 q1 q2 q3 q4 q5 q6 q7
        exact g_iret hx hb hr hlocks hP hD hK hS dX8_solved_51
      · replace hf := o_t c24 hf
        refine lv_iconst (v := 1) hx hb dX8_solved_27 (by decide) ?_
        refine lv_goto (tgt := 51) hx hb dX8_solved_28 (by decide) ?_
        obtain ⟨q0, y0⟩ := o_rp hf
        obtain ⟨q1, y1⟩ := o_rp y0
        obtain ⟨q2, y2⟩ := o_rp y1
        obtain ⟨q3, y3⟩ := o_rp y2
        obtain ⟨q4, y4⟩ := o_rp y3
        obtain ⟨q5, y5⟩ := o_rp y4
        obtain ⟨q6, y6⟩ := o_rp y5
        have q7 := Option.some.inj y6
        subst q0 q1 q2 q3 q4 q5 q6 q7
        exact g_iret hx hb hr hlocks hP hD hK hS dX8_solved_51
    · replace hf := o_f c13 hf
      refine lv_iconst (v := 0) hx hb dX8_solved_16 (by decide) ?_
      refine lv_goto (tgt := 51) hx hb dX8_solved_17 (by decide) ?_
      obtain ⟨q0, y0⟩ := o_rp hf
      obtain ⟨q1, y1⟩ := o_rp y0
      obtain ⟨q2, y2⟩ := o_rp y1
      obtain ⟨q3, y3⟩ := o_rp y2
      obtain ⟨q4, y4⟩ := o_rp y3
      obtain ⟨q5, y5⟩ := o_rp y4
      obtain ⟨q6, y6⟩ := o_rp y5
      have q7 := Option.some.inj y6
      subst q0 q1 q2 q3 q4 q5 q6 q7
      exact g_iret hx hb hr hlocks hP hD hK hS dX8_solved_51
set_option maxHeartbeats 4000000 in
set_option maxRecDepth 100000 in
theorem c_X8_solved (l : Launch) (D : va_G) (cI cM : ClassId) (a_this a_this_all a_this_past a_this_refused a_this_box a_this_row a_this_text a_this_numbers a_this_before : Nat) (sz : Nat) (v_states : Int32) (v_empty : Int32) (v_cut : Int32) (v_rowMany : Int32) (v_taken : Int32) (v_found : Int32) (v_textLong : Int32) (v_at : Int32) (v_stopped : Int32) (v_all : Nat → Int32) (v_box : Nat → Int32) (v_row : Nat → Int32) {N : Nat} {x1 : Int32} {x2 : Int32} {r : Int32} {o_empty : Int32} {o_cut : Int32} {o_rowMany : Int32} {o_taken : Int32} {o_found : Int32} {o_box : Nat → Int32} {o_row : Nat → Int32} (hf : f_X8_solved N v_all v_empty v_cut v_rowMany v_taken v_found v_box v_row x1 x2 = some (r, o_empty, o_cut, o_rowMany, o_taken, o_found, o_box, o_row)) : Met l yX8_solved wsX8_solved rm_X8_solved (g_Pc D (g_tys cI cM) (ww_X8_solved cI cM a_this a_this_all a_this_past a_this_refused a_this_box a_this_row a_this_text a_this_numbers a_this_before v_states v_empty v_cut v_rowMany v_taken v_found v_textLong v_at v_stopped v_all v_box v_row) sz [.ref a_this, .int x1, .int x2]) (g_QI D (g_tys cI cM) (va_A (ww_X8_solved cI cM a_this a_this_all a_this_past a_this_refused a_this_box a_this_row a_this_text a_this_numbers a_this_before v_states v_empty v_cut v_rowMany v_taken v_found v_textLong v_at v_stopped v_all v_box v_row) sz) (ww_X8_solved cI cM a_this a_this_all a_this_past a_this_refused a_this_box a_this_row a_this_text a_this_numbers a_this_before v_states o_empty o_cut o_rowMany o_taken o_found v_textLong v_at v_stopped v_all o_box o_row) r) 0 0 (va_A (ww_X8_solved cI cM a_this a_this_all a_this_past a_this_refused a_this_box a_this_row a_this_text a_this_numbers a_this_before v_states v_empty v_cut v_rowMany v_taken v_found v_textLong v_at v_stopped v_all v_box v_row) sz) := by
  refine g_met (cc := cX8_solved) (maxL := 3) (ret := (some .int)) (Qc := fun D A => g_QI D (g_tys cI cM) A (ww_X8_solved cI cM a_this a_this_all a_this_past a_this_refused a_this_box a_this_row a_this_text a_this_numbers a_this_before v_states o_empty o_cut o_rowMany o_taken o_found v_textLong v_at v_stopped v_all o_box o_row) r) (by decide) rfl ?_
  intro p e s m below meth c A C0 hA hK hP hD
  have hl := lv_entry ([.ref a_this, .int x1, .int x2]) (n := 3) (Nat.le_of_ble_eq_true rfl)
  rw [lg_entry_eq]
  generalize (lg_sl ([.ref a_this, .int x1, .int x2]) ++ List.replicate (3 - (lg_sl ([.ref a_this, .int x1, .int x2])).length) Slot.unset).toArray = ls at hl ⊢
  have hl : lv_has ls 3 [(0, .ref a_this), (1, .int x1), (2, .int x2)] := hl
  exact w_X8_solved_B0 C0 hA hK v_empty v_cut v_rowMany v_taken v_found v_box v_row x1 x2 s.heap [] ls hf hP hD va_S.rf (lv_sub hl [0, 1, 2] rfl)
/-! FloatBoxesModel.solves(II)I -/
abbrev rm_X8_solves : Room := { frames := 14, cells := 0, slots := 0, locals := 338 }
abbrev ww_X8_solves (cI cM : ClassId) (a_this a_this_all a_this_past a_this_refused a_this_box a_this_row a_this_text a_this_numbers a_this_before : Nat) (v_states : Int32) (v_empty : Int32) (v_cut : Int32) (v_rowMany : Int32) (v_taken : Int32) (v_found : Int32) (v_textLong : Int32) (v_at : Int32) (v_stopped : Int32) (v_refused : Nat → Int32) (v_all : Nat → Int32) (v_box : Nat → Int32) (v_row : Nat → Int32) : va_W := [(a_this, .inr (6, [.ref a_this_all, .ref a_this_past, .int v_states, .ref a_this_refused, .ref a_this_box, .int v_empty, .int v_cut, .ref a_this_row, .int v_rowMany, .int v_taken, .int v_found, .ref a_this_text, .int v_textLong, .int v_at, .ref a_this_numbers, .int v_stopped, .ref a_this_before])), (a_this_refused, .inl (cI, 3, .inl v_refused)), (a_this_all, .inl (cI, 38, .inl v_all)), (a_this_box, .inl (cI, 12, .inl v_box)), (a_this_row, .inl (cI, 768, .inl v_row))]
def f_X8_solves_B33 (N : Nat) (v_all : Nat → Int32) (v_empty : Int32) (v_cut : Int32) (v_rowMany : Int32) (v_taken : Int32) (v_found : Int32) (v_refused : Nat → Int32) (v_box : Nat → Int32) (v_row : Nat → Int32) : Option (Int32 × Int32 × Int32 × Int32 × Int32 × Int32 × (Nat → Int32) × (Nat → Int32) × (Nat → Int32)) :=
  o_b2 (f_X8_refuses v_refused ((-2139095050))) (fun (r36 : Int32) (v_refused_36 : Nat → Int32) =>
  some (r36, v_empty, v_cut, v_rowMany, v_taken, v_found, v_refused_36, v_box, v_row))
set_option maxHeartbeats 4000000 in
set_option maxRecDepth 100000 in
theorem w_X8_solves_B33 {p : Program} {l : Launch} {e : Env} {s : State} {m : MethodId} {args : Array Value} {below : List Frame} {meth : Method} {c : Code} {D : va_G} {cI cM : ClassId} {A : Nat → Prop} {a_this a_this_all a_this_past a_this_refused a_this_box a_this_row a_this_text a_this_numbers a_this_before : Nat} {v_states : Int32} {v_textLong : Int32} {v_at : Int32} {v_stopped : Int32} {N : Nat} {v_all : Nat → Int32} {r : Int32} {o_empty : Int32} {o_cut : Int32} {o_rowMany : Int32} {o_taken : Int32} {o_found : Int32} {o_refused : Nat → Int32} {o_box : Nat → Int32} {o_row : Nat → Int32} (C0 : g_cx cX8_solves (some .int) 3 RX8 wsX8_solves p s m args meth c) (hA : ∀ q, s.heap.size ≤ q → A q) (hK : va_K D vwCl (g_tys cI cM) s) : ∀ (v_empty : Int32) (v_cut : Int32) (v_rowMany : Int32) (v_taken : Int32) (v_found : Int32) (v_refused : Nat → Int32) (v_box : Nat → Int32) (v_row : Nat → Int32) (H : Heap) (locs : List Loc) (ls : Array Slot), f_X8_solves_B33 N v_all v_empty v_cut v_rowMany v_taken v_found v_refused v_box v_row = some (r, o_empty, o_cut, o_rowMany, o_taken, o_found, o_refused, o_box, o_row) → va_P D vwCl (ww_X8_solves cI cM a_this a_this_all a_this_past a_this_refused a_this_box a_this_row a_this_text a_this_numbers a_this_before v_states v_empty v_cut v_rowMany v_taken v_found v_textLong v_at v_stopped v_refused v_all v_box v_row) H → va_D A (ww_X8_solves cI cM a_this a_this_all a_this_past a_this_refused a_this_box a_this_row a_this_text a_this_numbers a_this_before v_states v_empty v_cut v_rowMany v_taken v_found v_textLong v_at v_stopped v_refused v_all v_box v_row) → va_S A s.heap H locs → lv_has ls 3 [(0, .ref a_this)] → W p l e rm_X8_solves s m args below meth c H locs 0 0 (MQ below (g_QI D (g_tys cI cM) A (ww_X8_solves cI cM a_this a_this_all a_this_past a_this_refused a_this_box a_this_row a_this_text a_this_numbers a_this_before v_states o_empty o_cut o_rowMany o_taken o_found v_textLong v_at v_stopped o_refused v_all o_box o_row) r) args s 0 0 A) (F0 m 33 ls []) := by
  obtain ⟨hx, hb, hr, hml, hown, hts, hlocks⟩ := id C0
  intro v_empty v_cut v_rowMany v_taken v_found v_refused v_box v_row H locs ls hf hP hD hS hl
  unfold f_X8_solves_B33 at hf
  refine lv_aload_n hx hb dX8_solves_33 rfl (lv_at hl 0 rfl) ?_
  refine lv_ldc (v := (-2139095050)) hx hb hown (hts (.constant RX8 42 (-2139095050)) (List.mem_cons_of_mem _ (List.mem_append_left _ (List.mem_append_left _ (List.mem_of_getElem? (i := 2) rfl))))) dX8_solves_34 ?_
  obtain ⟨r36, v_refused_36, hg36, hf⟩ := o_b2_go hf
  refine g_callVi (wn := (ww_X8_solves cI cM a_this a_this_all a_this_past a_this_refused a_this_box a_this_row a_this_text a_this_numbers a_this_before v_states v_empty v_cut v_rowMany v_taken v_found v_textLong v_at v_stopped v_refused_36 v_all v_box v_row)) (rest := []) ⟨hx, hb, hml, hown, hts⟩ (c_X8_refuses l D cI cM a_this a_this_all a_this_past a_this_refused a_this_box a_this_row a_this_text a_this_numbers a_this_before H.size v_states v_empty v_cut v_rowMany v_taken v_found v_textLong v_at v_stopped v_refused hg36) (cwV 1 hts gX8_solves_X8_refuses rfl rfl rfl (by decide +kernel) ⟨Nat.le_of_ble_eq_true rfl, Nat.le_of_ble_eq_true rfl⟩) hK hP hD hS hA [0, 1] [2, 3, 4] [3, 4, 0, 1, 2] rfl rfl rfl rfl rfl rfl (by decide) rfl rfl rfl hl.1 rfl (Nat.le_of_ble_eq_true rfl) dX8_solves_36 (fun H locs hP hD hS => ?_)
  obtain ⟨q0, y0⟩ := o_rp hf
  obtain ⟨q1, y1⟩ := o_rp y0
  obtain ⟨q2, y2⟩ := o_rp y1
  obtain ⟨q3, y3⟩ := o_rp y2
  obtain ⟨q4, y4⟩ := o_rp y3
  obtain ⟨q5, y5⟩ := o_rp y4
  obtain ⟨q6, y6⟩ := o_rp y5
  obtain ⟨q7, y7⟩ := o_rp y6
  have q8 := Option.some.inj y7
  subst q0 q1 q2 q3 q4 q5 q6 q7 q8
  exact g_iret hx hb hr hlocks hP hD hK hS dX8_solves_39
def f_X8_solves (N : Nat) (v_all : Nat → Int32) (v_empty : Int32) (v_cut : Int32) (v_rowMany : Int32) (v_taken : Int32) (v_found : Int32) (v_refused : Nat → Int32) (v_box : Nat → Int32) (v_row : Nat → Int32) (x1 : Int32) (x2 : Int32) : Option (Int32 × Int32 × Int32 × Int32 × Int32 × Int32 × (Nat → Int32) × (Nat → Int32) × (Nat → Int32)) :=
  o_b1 (f_X8_in x1.toInt64 1 60) (fun (r6 : Int32) =>
  if r6 = 0 then
    f_X8_solves_B33 N v_all v_empty v_cut v_rowMany v_taken v_found v_refused v_box v_row
  else
    o_b1 (f_X8_in x2.toInt64 0 2) (fun (r18 : Int32) =>
    if r18 = 0 then
      f_X8_solves_B33 N v_all v_empty v_cut v_rowMany v_taken v_found v_refused v_box v_row
    else
      o_b8 (f_X8_solved N v_all v_empty v_cut v_rowMany v_taken v_found v_box v_row x1 x2) (fun (r27 : Int32) (v_empty_27 : Int32) (v_cut_27 : Int32) (v_rowMany_27 : Int32) (v_taken_27 : Int32) (v_found_27 : Int32) (v_box_27 : Nat → Int32) (v_row_27 : Nat → Int32) =>
      some (r27, v_empty_27, v_cut_27, v_rowMany_27, v_taken_27, v_found_27, v_refused, v_box_27, v_row_27))))
set_option maxHeartbeats 4000000 in
set_option maxRecDepth 100000 in
theorem w_X8_solves_B0 {p : Program} {l : Launch} {e : Env} {s : State} {m : MethodId} {args : Array Value} {below : List Frame} {meth : Method} {c : Code} {D : va_G} {cI cM : ClassId} {A : Nat → Prop} {a_this a_this_all a_this_past a_this_refused a_this_box a_this_row a_this_text a_this_numbers a_this_before : Nat} {v_states : Int32} {v_textLong : Int32} {v_at : Int32} {v_stopped : Int32} {N : Nat} {v_all : Nat → Int32} {r : Int32} {o_empty : Int32} {o_cut : Int32} {o_rowMany : Int32} {o_taken : Int32} {o_found : Int32} {o_refused : Nat → Int32} {o_box : Nat → Int32} {o_row : Nat → Int32} (C0 : g_cx cX8_solves (some .int) 3 RX8 wsX8_solves p s m args meth c) (hA : ∀ q, s.heap.size ≤ q → A q) (hK : va_K D vwCl (g_tys cI cM) s) : ∀ (v_empty : Int32) (v_cut : Int32) (v_rowMany : Int32) (v_taken : Int32) (v_found : Int32) (v_refused : Nat → Int32) (v_box : Nat → Int32) (v_row : Nat → Int32) (x1 : Int32) (x2 : Int32) (H : Heap) (locs : List Loc) (ls : Array Slot), f_X8_solves N v_all v_empty v_cut v_rowMany v_taken v_found v_refused v_box v_row x1 x2 = some (r, o_empty, o_cut, o_rowMany, o_taken, o_found, o_refused, o_box, o_row) → va_P D vwCl (ww_X8_solves cI cM a_this a_this_all a_this_past a_this_refused a_this_box a_this_row a_this_text a_this_numbers a_this_before v_states v_empty v_cut v_rowMany v_taken v_found v_textLong v_at v_stopped v_refused v_all v_box v_row) H → va_D A (ww_X8_solves cI cM a_this a_this_all a_this_past a_this_refused a_this_box a_this_row a_this_text a_this_numbers a_this_before v_states v_empty v_cut v_rowMany v_taken v_found v_textLong v_at v_stopped v_refused v_all v_box v_row) → va_S A s.heap H locs → lv_has ls 3 [(0, .ref a_this), (1, .int x1), (2, .int x2)] → W p l e rm_X8_solves s m args below meth c H locs 0 0 (MQ below (g_QI D (g_tys cI cM) A (ww_X8_solves cI cM a_this a_this_all a_this_past a_this_refused a_this_box a_this_row a_this_text a_this_numbers a_this_before v_states o_empty o_cut o_rowMany o_taken o_found v_textLong v_at v_stopped o_refused v_all o_box o_row) r) args s 0 0 A) (F0 m 0 ls []) := by
  obtain ⟨hx, hb, hr, hml, hown, hts, hlocks⟩ := id C0
  intro v_empty v_cut v_rowMany v_taken v_found v_refused v_box v_row x1 x2 H locs ls hf hP hD hS hl
  unfold f_X8_solves at hf
  refine lv_iload_n hx hb dX8_solves_0 rfl (lv_at hl 1 rfl) ?_
  refine lv_i2l hx hb dX8_solves_1 rfl ?_
  refine lv_lconst (v := 1) hx hb dX8_solves_2 (by decide) ?_
  refine lv_ldc2 (v := 60) hx hb hown (hts (.constantLong RX8 259 (60)) (List.mem_cons_of_mem _ (List.mem_append_left _ (List.mem_append_left _ (List.mem_of_getElem? (i := 0) rfl))))) dX8_solves_3 ?_
  obtain ⟨r6, hg6, hf⟩ := o_b1_go hf
  refine g_callSi (rest := []) ⟨hx, hb, hml, hown, hts⟩ (c_X8_in l hg6) (va_cwS 3 hts gX8_solves_X8_in rfl rfl rfl (by decide +kernel) ⟨Nat.le_of_ble_eq_true rfl, Nat.le_of_ble_eq_true rfl⟩) rfl hl.1 rfl (Nat.le_of_ble_eq_true rfl) dX8_solves_6 ?_
  refine lv_if_eq (tgt := 33) hx hb dX8_solves_9 (by decide) (fun c9 => ?_) (fun c9 => ?_)
  · replace hf := o_t c9 hf
    exact w_X8_solves_B33 C0 hA hK v_empty v_cut v_rowMany v_taken v_found v_refused v_box v_row H locs ls hf hP hD hS (lv_sub hl [0] rfl)
  · replace hf := o_f c9 hf
    refine lv_iload_n hx hb dX8_solves_12 rfl (lv_at hl 2 rfl) ?_
    refine lv_i2l hx hb dX8_solves_13 rfl ?_
    refine lv_lconst (v := 0) hx hb dX8_solves_14 (by decide) ?_
    refine lv_ldc2 (v := 2) hx hb hown (hts (.constantLong RX8 149 (2)) (List.mem_cons_of_mem _ (List.mem_append_left _ (List.mem_append_left _ (List.mem_of_getElem? (i := 1) rfl))))) dX8_solves_15 ?_
    obtain ⟨r18, hg18, hf⟩ := o_b1_go hf
    refine g_callSi (rest := []) ⟨hx, hb, hml, hown, hts⟩ (c_X8_in l hg18) (va_cwS 3 hts gX8_solves_X8_in rfl rfl rfl (by decide +kernel) ⟨Nat.le_of_ble_eq_true rfl, Nat.le_of_ble_eq_true rfl⟩) rfl hl.1 rfl (Nat.le_of_ble_eq_true rfl) dX8_solves_18 ?_
    refine lv_if_eq (tgt := 33) hx hb dX8_solves_21 (by decide) (fun c21 => ?_) (fun c21 => ?_)
    · replace hf := o_t c21 hf
      exact w_X8_solves_B33 C0 hA hK v_empty v_cut v_rowMany v_taken v_found v_refused v_box v_row H locs ls hf hP hD hS (lv_sub hl [0] rfl)
    · replace hf := o_f c21 hf
      refine lv_aload_n hx hb dX8_solves_24 rfl (lv_at hl 0 rfl) ?_
      refine lv_iload_n hx hb dX8_solves_25 rfl (lv_at hl 1 rfl) ?_
      refine lv_iload_n hx hb dX8_solves_26 rfl (lv_at hl 2 rfl) ?_
      obtain ⟨r27, v_empty_27, v_cut_27, v_rowMany_27, v_taken_27, v_found_27, v_box_27, v_row_27, hg27, hf⟩ := o_b8_go hf
      refine g_callVi (wn := (ww_X8_solves cI cM a_this a_this_all a_this_past a_this_refused a_this_box a_this_row a_this_text a_this_numbers a_this_before v_states v_empty_27 v_cut_27 v_rowMany_27 v_taken_27 v_found_27 v_textLong v_at v_stopped v_refused v_all v_box_27 v_row_27)) (rest := []) ⟨hx, hb, hml, hown, hts⟩ (c_X8_solved l D cI cM a_this a_this_all a_this_past a_this_refused a_this_box a_this_row a_this_text a_this_numbers a_this_before H.size v_states v_empty v_cut v_rowMany v_taken v_found v_textLong v_at v_stopped v_all v_box v_row hg27) (cwV 2 hts gX8_solves_X8_solved rfl rfl rfl (by decide +kernel) ⟨Nat.le_of_ble_eq_true rfl, Nat.le_of_ble_eq_true rfl⟩) hK hP hD hS hA [0, 2, 3, 4] [1] [1, 0, 2, 3, 4] rfl rfl rfl rfl rfl rfl (by decide) rfl rfl rfl hl.1 rfl (Nat.le_of_ble_eq_true rfl) dX8_solves_27 (fun H locs hP hD hS => ?_)
      refine lv_goto (tgt := 39) hx hb dX8_solves_30 (by decide) ?_
      obtain ⟨q0, y0⟩ := o_rp hf
      obtain ⟨q1, y1⟩ := o_rp y0
      obtain ⟨q2, y2⟩ := o_rp y1
      obtain ⟨q3, y3⟩ := o_rp y2
      obtain ⟨q4, y4⟩ := o_rp y3
      obtain ⟨q5, y5⟩ := o_rp y4
      obtain ⟨q6, y6⟩ := o_rp y5
      obtain ⟨q7, y7⟩ := o_rp y6
      have q8 := Option.some.inj y7
      subst q0 q1 q2 q3 q4 q5 q6 q7 q8
      exact g_iret hx hb hr hlocks hP hD hK hS dX8_solves_39
set_option maxHeartbeats 4000000 in
set_option maxRecDepth 100000 in
theorem c_X8_solves (l : Launch) (D : va_G) (cI cM : ClassId) (a_this a_this_all a_this_past a_this_refused a_this_box a_this_row a_this_text a_this_numbers a_this_before : Nat) (sz : Nat) (v_states : Int32) (v_empty : Int32) (v_cut : Int32) (v_rowMany : Int32) (v_taken : Int32) (v_found : Int32) (v_textLong : Int32) (v_at : Int32) (v_stopped : Int32) (v_refused : Nat → Int32) (v_all : Nat → Int32) (v_box : Nat → Int32) (v_row : Nat → Int32) {N : Nat} {x1 : Int32} {x2 : Int32} {r : Int32} {o_empty : Int32} {o_cut : Int32} {o_rowMany : Int32} {o_taken : Int32} {o_found : Int32} {o_refused : Nat → Int32} {o_box : Nat → Int32} {o_row : Nat → Int32} (hf : f_X8_solves N v_all v_empty v_cut v_rowMany v_taken v_found v_refused v_box v_row x1 x2 = some (r, o_empty, o_cut, o_rowMany, o_taken, o_found, o_refused, o_box, o_row)) : Met l yX8_solves wsX8_solves rm_X8_solves (g_Pc D (g_tys cI cM) (ww_X8_solves cI cM a_this a_this_all a_this_past a_this_refused a_this_box a_this_row a_this_text a_this_numbers a_this_before v_states v_empty v_cut v_rowMany v_taken v_found v_textLong v_at v_stopped v_refused v_all v_box v_row) sz [.ref a_this, .int x1, .int x2]) (g_QI D (g_tys cI cM) (va_A (ww_X8_solves cI cM a_this a_this_all a_this_past a_this_refused a_this_box a_this_row a_this_text a_this_numbers a_this_before v_states v_empty v_cut v_rowMany v_taken v_found v_textLong v_at v_stopped v_refused v_all v_box v_row) sz) (ww_X8_solves cI cM a_this a_this_all a_this_past a_this_refused a_this_box a_this_row a_this_text a_this_numbers a_this_before v_states o_empty o_cut o_rowMany o_taken o_found v_textLong v_at v_stopped o_refused v_all o_box o_row) r) 0 0 (va_A (ww_X8_solves cI cM a_this a_this_all a_this_past a_this_refused a_this_box a_this_row a_this_text a_this_numbers a_this_before v_states v_empty v_cut v_rowMany v_taken v_found v_textLong v_at v_stopped v_refused v_all v_box v_row) sz) := by
  refine g_met (cc := cX8_solves) (maxL := 3) (ret := (some .int)) (Qc := fun D A => g_QI D (g_tys cI cM) A (ww_X8_solves cI cM a_this a_this_all a_this_past a_this_refused a_this_box a_this_row a_this_text a_this_numbers a_this_before v_states o_empty o_cut o_rowMany o_taken o_found v_textLong v_at v_stopped o_refused v_all o_box o_row) r) (by decide) rfl ?_
  intro p e s m below meth c A C0 hA hK hP hD
  have hl := lv_entry ([.ref a_this, .int x1, .int x2]) (n := 3) (Nat.le_of_ble_eq_true rfl)
  rw [lg_entry_eq]
  generalize (lg_sl ([.ref a_this, .int x1, .int x2]) ++ List.replicate (3 - (lg_sl ([.ref a_this, .int x1, .int x2])).length) Slot.unset).toArray = ls at hl ⊢
  have hl : lv_has ls 3 [(0, .ref a_this), (1, .int x1), (2, .int x2)] := hl
  exact w_X8_solves_B0 C0 hA hK v_empty v_cut v_rowMany v_taken v_found v_refused v_box v_row x1 x2 s.heap [] ls hf hP hD va_S.rf (lv_sub hl [0, 1, 2] rfl)
/-! FloatBoxesModel.point(II)I -/
abbrev rm_X8_point : Room := { frames := 13, cells := 0, slots := 0, locals := 316 }
abbrev ww_X8_point (cI cM : ClassId) (a_this a_this_all a_this_past a_this_refused a_this_box a_this_row a_this_text a_this_numbers a_this_before : Nat) (v_states : Int32) (v_empty : Int32) (v_cut : Int32) (v_rowMany : Int32) (v_taken : Int32) (v_found : Int32) (v_textLong : Int32) (v_at : Int32) (v_stopped : Int32) (v_refused : Nat → Int32) (v_all : Nat → Int32) (v_box : Nat → Int32) (v_row : Nat → Int32) : va_W := [(a_this, .inr (6, [.ref a_this_all, .ref a_this_past, .int v_states, .ref a_this_refused, .ref a_this_box, .int v_empty, .int v_cut, .ref a_this_row, .int v_rowMany, .int v_taken, .int v_found, .ref a_this_text, .int v_textLong, .int v_at, .ref a_this_numbers, .int v_stopped, .ref a_this_before])), (a_this_refused, .inl (cI, 3, .inl v_refused)), (a_this_all, .inl (cI, 38, .inl v_all)), (a_this_box, .inl (cI, 12, .inl v_box)), (a_this_row, .inl (cI, 768, .inl v_row))]
def f_X8_point_B20 (N : Nat) (v_all : Nat → Int32) (v_empty : Int32) (v_cut : Int32) (v_rowMany : Int32) (v_taken : Int32) (v_found : Int32) (v_refused : Nat → Int32) (v_box : Nat → Int32) (v_row : Nat → Int32) : Option (Int32 × Int32 × Int32 × Int32 × Int32 × Int32 × (Nat → Int32) × (Nat → Int32) × (Nat → Int32)) :=
  o_b2 (f_X8_refuses v_refused ((-2139095050))) (fun (r23 : Int32) (v_refused_23 : Nat → Int32) =>
  some (r23, v_empty, v_cut, v_rowMany, v_taken, v_found, v_refused_23, v_box, v_row))
set_option maxHeartbeats 4000000 in
set_option maxRecDepth 100000 in
theorem w_X8_point_B20 {p : Program} {l : Launch} {e : Env} {s : State} {m : MethodId} {args : Array Value} {below : List Frame} {meth : Method} {c : Code} {D : va_G} {cI cM : ClassId} {A : Nat → Prop} {a_this a_this_all a_this_past a_this_refused a_this_box a_this_row a_this_text a_this_numbers a_this_before : Nat} {v_states : Int32} {v_textLong : Int32} {v_at : Int32} {v_stopped : Int32} {N : Nat} {v_all : Nat → Int32} {r : Int32} {o_empty : Int32} {o_cut : Int32} {o_rowMany : Int32} {o_taken : Int32} {o_found : Int32} {o_refused : Nat → Int32} {o_box : Nat → Int32} {o_row : Nat → Int32} (C0 : g_cx cX8_point (some .int) 3 RX8 wsX8_point p s m args meth c) (hA : ∀ q, s.heap.size ≤ q → A q) (hK : va_K D vwCl (g_tys cI cM) s) : ∀ (v_empty : Int32) (v_cut : Int32) (v_rowMany : Int32) (v_taken : Int32) (v_found : Int32) (v_refused : Nat → Int32) (v_box : Nat → Int32) (v_row : Nat → Int32) (H : Heap) (locs : List Loc) (ls : Array Slot), f_X8_point_B20 N v_all v_empty v_cut v_rowMany v_taken v_found v_refused v_box v_row = some (r, o_empty, o_cut, o_rowMany, o_taken, o_found, o_refused, o_box, o_row) → va_P D vwCl (ww_X8_point cI cM a_this a_this_all a_this_past a_this_refused a_this_box a_this_row a_this_text a_this_numbers a_this_before v_states v_empty v_cut v_rowMany v_taken v_found v_textLong v_at v_stopped v_refused v_all v_box v_row) H → va_D A (ww_X8_point cI cM a_this a_this_all a_this_past a_this_refused a_this_box a_this_row a_this_text a_this_numbers a_this_before v_states v_empty v_cut v_rowMany v_taken v_found v_textLong v_at v_stopped v_refused v_all v_box v_row) → va_S A s.heap H locs → lv_has ls 3 [(0, .ref a_this)] → W p l e rm_X8_point s m args below meth c H locs 0 0 (MQ below (g_QI D (g_tys cI cM) A (ww_X8_point cI cM a_this a_this_all a_this_past a_this_refused a_this_box a_this_row a_this_text a_this_numbers a_this_before v_states o_empty o_cut o_rowMany o_taken o_found v_textLong v_at v_stopped o_refused v_all o_box o_row) r) args s 0 0 A) (F0 m 20 ls []) := by
  obtain ⟨hx, hb, hr, hml, hown, hts, hlocks⟩ := id C0
  intro v_empty v_cut v_rowMany v_taken v_found v_refused v_box v_row H locs ls hf hP hD hS hl
  unfold f_X8_point_B20 at hf
  refine lv_aload_n hx hb dX8_point_20 rfl (lv_at hl 0 rfl) ?_
  refine lv_ldc (v := (-2139095050)) hx hb hown (hts (.constant RX8 42 (-2139095050)) (List.mem_cons_of_mem _ (List.mem_append_left _ (List.mem_append_left _ (List.mem_of_getElem? (i := 1) rfl))))) dX8_point_21 ?_
  obtain ⟨r23, v_refused_23, hg23, hf⟩ := o_b2_go hf
  refine g_callVi (wn := (ww_X8_point cI cM a_this a_this_all a_this_past a_this_refused a_this_box a_this_row a_this_text a_this_numbers a_this_before v_states v_empty v_cut v_rowMany v_taken v_found v_textLong v_at v_stopped v_refused_23 v_all v_box v_row)) (rest := []) ⟨hx, hb, hml, hown, hts⟩ (c_X8_refuses l D cI cM a_this a_this_all a_this_past a_this_refused a_this_box a_this_row a_this_text a_this_numbers a_this_before H.size v_states v_empty v_cut v_rowMany v_taken v_found v_textLong v_at v_stopped v_refused hg23) (cwV 1 hts gX8_point_X8_refuses rfl rfl rfl (by decide +kernel) ⟨Nat.le_of_ble_eq_true rfl, Nat.le_of_ble_eq_true rfl⟩) hK hP hD hS hA [0, 1] [2, 3, 4] [3, 4, 0, 1, 2] rfl rfl rfl rfl rfl rfl (by decide) rfl rfl rfl hl.1 rfl (Nat.le_of_ble_eq_true rfl) dX8_point_23 (fun H locs hP hD hS => ?_)
  obtain ⟨q0, y0⟩ := o_rp hf
  obtain ⟨q1, y1⟩ := o_rp y0
  obtain ⟨q2, y2⟩ := o_rp y1
  obtain ⟨q3, y3⟩ := o_rp y2
  obtain ⟨q4, y4⟩ := o_rp y3
  obtain ⟨q5, y5⟩ := o_rp y4
  obtain ⟨q6, y6⟩ := o_rp y5
  obtain ⟨q7, y7⟩ := o_rp y6
  have q8 := Option.some.inj y7
  subst q0 q1 q2 q3 q4 q5 q6 q7 q8
  exact g_iret hx hb hr hlocks hP hD hK hS dX8_point_26
def f_X8_point (N : Nat) (v_all : Nat → Int32) (v_empty : Int32) (v_cut : Int32) (v_rowMany : Int32) (v_taken : Int32) (v_found : Int32) (v_refused : Nat → Int32) (v_box : Nat → Int32) (v_row : Nat → Int32) (x1 : Int32) (x2 : Int32) : Option (Int32 × Int32 × Int32 × Int32 × Int32 × Int32 × (Nat → Int32) × (Nat → Int32) × (Nat → Int32)) :=
  o_b1 (f_X8_in x1.toInt64 1 60) (fun (r6 : Int32) =>
  if r6 = 0 then
    f_X8_point_B20 N v_all v_empty v_cut v_rowMany v_taken v_found v_refused v_box v_row
  else
    o_b1 (f_X8_isUnknown v_all x2) (fun (r14 : Int32) =>
    if r14 = 0 then
      f_X8_point_B20 N v_all v_empty v_cut v_rowMany v_taken v_found v_refused v_box v_row
    else
      o_b7 (f_X8_solve N v_all v_empty v_cut v_rowMany v_taken v_found v_box v_row x1) (fun (v_empty_29 : Int32) (v_cut_29 : Int32) (v_rowMany_29 : Int32) (v_taken_29 : Int32) (v_found_29 : Int32) (v_box_29 : Nat → Int32) (v_row_29 : Nat → Int32) =>
      if v_found_29 = 0 then
        o_b2 (f_X8_refuses v_refused ((-2139095051))) (fun (r51 : Int32) (v_refused_51 : Nat → Int32) =>
        some (r51, v_empty_29, v_cut_29, v_rowMany_29, v_taken_29, v_found_29, v_refused_51, v_box_29, v_row_29))
      else
        o_b1 (f_X8_low v_box_29 x2) (fun (r41 : Int32) =>
        some (r41, v_empty_29, v_cut_29, v_rowMany_29, v_taken_29, v_found_29, v_refused, v_box_29, v_row_29)))))
set_option maxHeartbeats 4000000 in
set_option maxRecDepth 100000 in
theorem w_X8_point_B0 {p : Program} {l : Launch} {e : Env} {s : State} {m : MethodId} {args : Array Value} {below : List Frame} {meth : Method} {c : Code} {D : va_G} {cI cM : ClassId} {A : Nat → Prop} {a_this a_this_all a_this_past a_this_refused a_this_box a_this_row a_this_text a_this_numbers a_this_before : Nat} {v_states : Int32} {v_textLong : Int32} {v_at : Int32} {v_stopped : Int32} {N : Nat} {v_all : Nat → Int32} {r : Int32} {o_empty : Int32} {o_cut : Int32} {o_rowMany : Int32} {o_taken : Int32} {o_found : Int32} {o_refused : Nat → Int32} {o_box : Nat → Int32} {o_row : Nat → Int32} (C0 : g_cx cX8_point (some .int) 3 RX8 wsX8_point p s m args meth c) (hA : ∀ q, s.heap.size ≤ q → A q) (hK : va_K D vwCl (g_tys cI cM) s) : ∀ (v_empty : Int32) (v_cut : Int32) (v_rowMany : Int32) (v_taken : Int32) (v_found : Int32) (v_refused : Nat → Int32) (v_box : Nat → Int32) (v_row : Nat → Int32) (x1 : Int32) (x2 : Int32) (H : Heap) (locs : List Loc) (ls : Array Slot), f_X8_point N v_all v_empty v_cut v_rowMany v_taken v_found v_refused v_box v_row x1 x2 = some (r, o_empty, o_cut, o_rowMany, o_taken, o_found, o_refused, o_box, o_row) → va_P D vwCl (ww_X8_point cI cM a_this a_this_all a_this_past a_this_refused a_this_box a_this_row a_this_text a_this_numbers a_this_before v_states v_empty v_cut v_rowMany v_taken v_found v_textLong v_at v_stopped v_refused v_all v_box v_row) H → va_D A (ww_X8_point cI cM a_this a_this_all a_this_past a_this_refused a_this_box a_this_row a_this_text a_this_numbers a_this_before v_states v_empty v_cut v_rowMany v_taken v_found v_textLong v_at v_stopped v_refused v_all v_box v_row) → va_S A s.heap H locs → lv_has ls 3 [(0, .ref a_this), (1, .int x1), (2, .int x2)] → W p l e rm_X8_point s m args below meth c H locs 0 0 (MQ below (g_QI D (g_tys cI cM) A (ww_X8_point cI cM a_this a_this_all a_this_past a_this_refused a_this_box a_this_row a_this_text a_this_numbers a_this_before v_states o_empty o_cut o_rowMany o_taken o_found v_textLong v_at v_stopped o_refused v_all o_box o_row) r) args s 0 0 A) (F0 m 0 ls []) := by
  obtain ⟨hx, hb, hr, hml, hown, hts, hlocks⟩ := id C0
  intro v_empty v_cut v_rowMany v_taken v_found v_refused v_box v_row x1 x2 H locs ls hf hP hD hS hl
  unfold f_X8_point at hf
  refine lv_iload_n hx hb dX8_point_0 rfl (lv_at hl 1 rfl) ?_
  refine lv_i2l hx hb dX8_point_1 rfl ?_
  refine lv_lconst (v := 1) hx hb dX8_point_2 (by decide) ?_
  refine lv_ldc2 (v := 60) hx hb hown (hts (.constantLong RX8 259 (60)) (List.mem_cons_of_mem _ (List.mem_append_left _ (List.mem_append_left _ (List.mem_of_getElem? (i := 0) rfl))))) dX8_point_3 ?_
  obtain ⟨r6, hg6, hf⟩ := o_b1_go hf
  refine g_callSi (rest := []) ⟨hx, hb, hml, hown, hts⟩ (c_X8_in l hg6) (va_cwS 3 hts gX8_point_X8_in rfl rfl rfl (by decide +kernel) ⟨Nat.le_of_ble_eq_true rfl, Nat.le_of_ble_eq_true rfl⟩) rfl hl.1 rfl (Nat.le_of_ble_eq_true rfl) dX8_point_6 ?_
  refine lv_if_eq (tgt := 20) hx hb dX8_point_9 (by decide) (fun c9 => ?_) (fun c9 => ?_)
  · replace hf := o_t c9 hf
    exact w_X8_point_B20 C0 hA hK v_empty v_cut v_rowMany v_taken v_found v_refused v_box v_row H locs ls hf hP hD hS (lv_sub hl [0] rfl)
  · replace hf := o_f c9 hf
    refine lv_aload_n hx hb dX8_point_12 rfl (lv_at hl 0 rfl) ?_
    refine lv_iload_n hx hb dX8_point_13 rfl (lv_at hl 2 rfl) ?_
    obtain ⟨r14, hg14, hf⟩ := o_b1_go hf
    refine g_callVi (wn := (ww_X8_point cI cM a_this a_this_all a_this_past a_this_refused a_this_box a_this_row a_this_text a_this_numbers a_this_before v_states v_empty v_cut v_rowMany v_taken v_found v_textLong v_at v_stopped v_refused v_all v_box v_row)) (rest := []) ⟨hx, hb, hml, hown, hts⟩ (c_X8_isUnknown l D cI cM a_this a_this_all a_this_past a_this_refused a_this_box a_this_row a_this_text a_this_numbers a_this_before H.size v_states v_empty v_cut v_rowMany v_taken v_found v_textLong v_at v_stopped v_all hg14) (cwV 1 hts gX8_point_X8_isUnknown rfl rfl rfl (by decide +kernel) ⟨Nat.le_of_ble_eq_true rfl, Nat.le_of_ble_eq_true rfl⟩) hK hP hD hS hA [0, 2] [1, 3, 4] [3, 0, 4, 1, 2] rfl rfl rfl rfl rfl rfl (by decide) rfl rfl rfl hl.1 rfl (Nat.le_of_ble_eq_true rfl) dX8_point_14 (fun H locs hP hD hS => ?_)
    refine lv_if_ne (tgt := 27) hx hb dX8_point_17 (by decide) (fun c17 => ?_) (fun c17 => ?_)
    · replace hf := o_f c17 hf
      refine lv_aload_n hx hb dX8_point_27 rfl (lv_at hl 0 rfl) ?_
      refine lv_iload_n hx hb dX8_point_28 rfl (lv_at hl 1 rfl) ?_
      obtain ⟨v_empty_29, v_cut_29, v_rowMany_29, v_taken_29, v_found_29, v_box_29, v_row_29, hg29, hf⟩ := o_b7_go hf
      refine g_callVv (wn := (ww_X8_point cI cM a_this a_this_all a_this_past a_this_refused a_this_box a_this_row a_this_text a_this_numbers a_this_before v_states v_empty_29 v_cut_29 v_rowMany_29 v_taken_29 v_found_29 v_textLong v_at v_stopped v_refused v_all v_box_29 v_row_29)) (rest := []) ⟨hx, hb, hml, hown, hts⟩ (c_X8_solve l D cI cM a_this a_this_all a_this_past a_this_refused a_this_box a_this_row a_this_text a_this_numbers a_this_before H.size v_states v_empty v_cut v_rowMany v_taken v_found v_textLong v_at v_stopped v_all v_box v_row hg29) (cwV 1 hts gX8_point_X8_solve rfl rfl rfl (by decide +kernel) ⟨Nat.le_of_ble_eq_true rfl, Nat.le_of_ble_eq_true rfl⟩) hK hP hD hS hA [0, 2, 3, 4] [1] [1, 0, 2, 3, 4] rfl rfl rfl rfl rfl rfl (by decide) rfl rfl rfl hl.1 rfl (Nat.le_of_ble_eq_true rfl) dX8_point_29 (fun H locs hP hD hS => ?_)
      refine lv_aload_n hx hb dX8_point_32 rfl (lv_at hl 0 rfl) ?_
      refine va_get (D := D) (ci := 6) (v := .int v_found_29) (C := RX8) (T := TX8) (N := 17) hx hb hts (fun _ h => (List.mem_cons_of_mem _ (List.mem_append_right _ h))) hown hK hP 0 rfl rfl 10 (by decide) (hts (.fieldLink RX8 247 "FloatBoxesModel" "found" "Z") (List.mem_cons_of_mem _ (List.mem_append_left _ (List.mem_append_left _ (List.mem_of_getElem? (i := 2) rfl))))) (fun _ h9 => h9) rfl dX8_point_33 ?_
      refine lv_if_eq (tgt := 47) hx hb dX8_point_36 (by decide) (fun c36 => ?_) (fun c36 => ?_)
      · replace hf := o_t c36 hf
        refine lv_aload_n hx hb dX8_point_47 rfl (lv_at hl 0 rfl) ?_
        refine lv_ldcw (v := (-2139095051)) hx hb hown (hts (.constant RX8 264 (-2139095051)) (List.mem_cons_of_mem _ (List.mem_append_left _ (List.mem_append_left _ (List.mem_of_getElem? (i := 3) rfl))))) dX8_point_48 ?_
        obtain ⟨r51, v_refused_51, hg51, hf⟩ := o_b2_go hf
        refine g_callVi (wn := (ww_X8_point cI cM a_this a_this_all a_this_past a_this_refused a_this_box a_this_row a_this_text a_this_numbers a_this_before v_states v_empty_29 v_cut_29 v_rowMany_29 v_taken_29 v_found_29 v_textLong v_at v_stopped v_refused_51 v_all v_box_29 v_row_29)) (rest := []) ⟨hx, hb, hml, hown, hts⟩ (c_X8_refuses l D cI cM a_this a_this_all a_this_past a_this_refused a_this_box a_this_row a_this_text a_this_numbers a_this_before H.size v_states v_empty_29 v_cut_29 v_rowMany_29 v_taken_29 v_found_29 v_textLong v_at v_stopped v_refused hg51) (cwV 1 hts gX8_point_X8_refuses rfl rfl rfl (by decide +kernel) ⟨Nat.le_of_ble_eq_true rfl, Nat.le_of_ble_eq_true rfl⟩) hK hP hD hS hA [0, 1] [2, 3, 4] [3, 4, 0, 1, 2] rfl rfl rfl rfl rfl rfl (by decide) rfl rfl rfl hl.1 rfl (Nat.le_of_ble_eq_true rfl) dX8_point_51 (fun H locs hP hD hS => ?_)
        obtain ⟨q0, y0⟩ := o_rp hf
        obtain ⟨q1, y1⟩ := o_rp y0
        obtain ⟨q2, y2⟩ := o_rp y1
        obtain ⟨q3, y3⟩ := o_rp y2
        obtain ⟨q4, y4⟩ := o_rp y3
        obtain ⟨q5, y5⟩ := o_rp y4
        obtain ⟨q6, y6⟩ := o_rp y5
        obtain ⟨q7, y7⟩ := o_rp y6
        have q8 := Option.some.inj y7
        subst q0 q1 q2 q3 q4 q5 q6 q7 q8
        exact g_iret hx hb hr hlocks hP hD hK hS dX8_point_54
      · replace hf := o_f c36 hf
        refine lv_aload_n hx hb dX8_point_39 rfl (lv_at hl 0 rfl) ?_
        refine lv_iload_n hx hb dX8_point_40 rfl (lv_at hl 2 rfl) ?_
        obtain ⟨r41, hg41, hf⟩ := o_b1_go hf
        refine g_callVi (wn := (ww_X8_point cI cM a_this a_this_all a_this_past a_this_refused a_this_box a_this_row a_this_text a_this_numbers a_this_before v_states v_empty_29 v_cut_29 v_rowMany_29 v_taken_29 v_found_29 v_textLong v_at v_stopped v_refused v_all v_box_29 v_row_29)) (rest := []) ⟨hx, hb, hml, hown, hts⟩ (c_X8_low l D cI cM a_this a_this_all a_this_past a_this_refused a_this_box a_this_row a_this_text a_this_numbers a_this_before H.size v_states v_empty_29 v_cut_29 v_rowMany_29 v_taken_29 v_found_29 v_textLong v_at v_stopped v_box_29 hg41) (cwV 1 hts gX8_point_X8_low rfl rfl rfl (by decide +kernel) ⟨Nat.le_of_ble_eq_true rfl, Nat.le_of_ble_eq_true rfl⟩) hK hP hD hS hA [0, 3] [1, 2, 4] [3, 0, 1, 4, 2] rfl rfl rfl rfl rfl rfl (by decide) rfl rfl rfl hl.1 rfl (Nat.le_of_ble_eq_true rfl) dX8_point_41 (fun H locs hP hD hS => ?_)
        refine lv_goto (tgt := 54) hx hb dX8_point_44 (by decide) ?_
        obtain ⟨q0, y0⟩ := o_rp hf
        obtain ⟨q1, y1⟩ := o_rp y0
        obtain ⟨q2, y2⟩ := o_rp y1
        obtain ⟨q3, y3⟩ := o_rp y2
        obtain ⟨q4, y4⟩ := o_rp y3
        obtain ⟨q5, y5⟩ := o_rp y4
        obtain ⟨q6, y6⟩ := o_rp y5
        obtain ⟨q7, y7⟩ := o_rp y6
        have q8 := Option.some.inj y7
        subst q0 q1 q2 q3 q4 q5 q6 q7 q8
        exact g_iret hx hb hr hlocks hP hD hK hS dX8_point_54
    · replace hf := o_t c17 hf
      exact w_X8_point_B20 C0 hA hK v_empty v_cut v_rowMany v_taken v_found v_refused v_box v_row H locs ls hf hP hD hS (lv_sub hl [0] rfl)
set_option maxHeartbeats 4000000 in
set_option maxRecDepth 100000 in
theorem c_X8_point (l : Launch) (D : va_G) (cI cM : ClassId) (a_this a_this_all a_this_past a_this_refused a_this_box a_this_row a_this_text a_this_numbers a_this_before : Nat) (sz : Nat) (v_states : Int32) (v_empty : Int32) (v_cut : Int32) (v_rowMany : Int32) (v_taken : Int32) (v_found : Int32) (v_textLong : Int32) (v_at : Int32) (v_stopped : Int32) (v_refused : Nat → Int32) (v_all : Nat → Int32) (v_box : Nat → Int32) (v_row : Nat → Int32) {N : Nat} {x1 : Int32} {x2 : Int32} {r : Int32} {o_empty : Int32} {o_cut : Int32} {o_rowMany : Int32} {o_taken : Int32} {o_found : Int32} {o_refused : Nat → Int32} {o_box : Nat → Int32} {o_row : Nat → Int32} (hf : f_X8_point N v_all v_empty v_cut v_rowMany v_taken v_found v_refused v_box v_row x1 x2 = some (r, o_empty, o_cut, o_rowMany, o_taken, o_found, o_refused, o_box, o_row)) : Met l yX8_point wsX8_point rm_X8_point (g_Pc D (g_tys cI cM) (ww_X8_point cI cM a_this a_this_all a_this_past a_this_refused a_this_box a_this_row a_this_text a_this_numbers a_this_before v_states v_empty v_cut v_rowMany v_taken v_found v_textLong v_at v_stopped v_refused v_all v_box v_row) sz [.ref a_this, .int x1, .int x2]) (g_QI D (g_tys cI cM) (va_A (ww_X8_point cI cM a_this a_this_all a_this_past a_this_refused a_this_box a_this_row a_this_text a_this_numbers a_this_before v_states v_empty v_cut v_rowMany v_taken v_found v_textLong v_at v_stopped v_refused v_all v_box v_row) sz) (ww_X8_point cI cM a_this a_this_all a_this_past a_this_refused a_this_box a_this_row a_this_text a_this_numbers a_this_before v_states o_empty o_cut o_rowMany o_taken o_found v_textLong v_at v_stopped o_refused v_all o_box o_row) r) 0 0 (va_A (ww_X8_point cI cM a_this a_this_all a_this_past a_this_refused a_this_box a_this_row a_this_text a_this_numbers a_this_before v_states v_empty v_cut v_rowMany v_taken v_found v_textLong v_at v_stopped v_refused v_all v_box v_row) sz) := by
  refine g_met (cc := cX8_point) (maxL := 3) (ret := (some .int)) (Qc := fun D A => g_QI D (g_tys cI cM) A (ww_X8_point cI cM a_this a_this_all a_this_past a_this_refused a_this_box a_this_row a_this_text a_this_numbers a_this_before v_states o_empty o_cut o_rowMany o_taken o_found v_textLong v_at v_stopped o_refused v_all o_box o_row) r) (by decide) rfl ?_
  intro p e s m below meth c A C0 hA hK hP hD
  have hl := lv_entry ([.ref a_this, .int x1, .int x2]) (n := 3) (Nat.le_of_ble_eq_true rfl)
  rw [lg_entry_eq]
  generalize (lg_sl ([.ref a_this, .int x1, .int x2]) ++ List.replicate (3 - (lg_sl ([.ref a_this, .int x1, .int x2])).length) Slot.unset).toArray = ls at hl ⊢
  have hl : lv_has ls 3 [(0, .ref a_this), (1, .int x1), (2, .int x2)] := hl
  exact w_X8_point_B0 C0 hA hK v_empty v_cut v_rowMany v_taken v_found v_refused v_box v_row x1 x2 s.heap [] ls hf hP hD va_S.rf (lv_sub hl [0, 1, 2] rfl)
/-! FloatBoxesModel.whole(I)I -/
abbrev rm_X8_whole : Room := { frames := 3, cells := 0, slots := 0, locals := 64 }
abbrev ww_X8_whole (cI cM : ClassId) (a_this a_this_all a_this_past a_this_refused a_this_box a_this_row a_this_text a_this_numbers a_this_before : Nat) (v_states : Int32) (v_empty : Int32) (v_cut : Int32) (v_rowMany : Int32) (v_taken : Int32) (v_found : Int32) (v_textLong : Int32) (v_at : Int32) (v_stopped : Int32) : va_W := [(a_this, .inr (6, [.ref a_this_all, .ref a_this_past, .int v_states, .ref a_this_refused, .ref a_this_box, .int v_empty, .int v_cut, .ref a_this_row, .int v_rowMany, .int v_taken, .int v_found, .ref a_this_text, .int v_textLong, .int v_at, .ref a_this_numbers, .int v_stopped, .ref a_this_before]))]
def f_X8_whole  (x1 : Int32) : Option (Int32) :=
  o_b1 (f_X8_place (FP.i2f x1)) (fun (r2 : Int32) =>
  some r2)
set_option maxHeartbeats 4000000 in
set_option maxRecDepth 100000 in
theorem w_X8_whole_B0 {p : Program} {l : Launch} {e : Env} {s : State} {m : MethodId} {args : Array Value} {below : List Frame} {meth : Method} {c : Code} {D : va_G} {cI cM : ClassId} {A : Nat → Prop} {a_this a_this_all a_this_past a_this_refused a_this_box a_this_row a_this_text a_this_numbers a_this_before : Nat} {v_states : Int32} {v_empty : Int32} {v_cut : Int32} {v_rowMany : Int32} {v_taken : Int32} {v_found : Int32} {v_textLong : Int32} {v_at : Int32} {v_stopped : Int32} {r : Int32} (C0 : g_cx cX8_whole (some .int) 2 RX8 wsX8_whole p s m args meth c) (hA : ∀ q, s.heap.size ≤ q → A q) (hK : va_K D vwCl (g_tys cI cM) s) : ∀ (x1 : Int32) (H : Heap) (locs : List Loc) (ls : Array Slot), f_X8_whole x1 = some r → va_P D vwCl (ww_X8_whole cI cM a_this a_this_all a_this_past a_this_refused a_this_box a_this_row a_this_text a_this_numbers a_this_before v_states v_empty v_cut v_rowMany v_taken v_found v_textLong v_at v_stopped) H → va_D A (ww_X8_whole cI cM a_this a_this_all a_this_past a_this_refused a_this_box a_this_row a_this_text a_this_numbers a_this_before v_states v_empty v_cut v_rowMany v_taken v_found v_textLong v_at v_stopped) → va_S A s.heap H locs → lv_has ls 2 [(1, .int x1)] → W p l e rm_X8_whole s m args below meth c H locs 0 0 (MQ below (g_QI D (g_tys cI cM) A (ww_X8_whole cI cM a_this a_this_all a_this_past a_this_refused a_this_box a_this_row a_this_text a_this_numbers a_this_before v_states v_empty v_cut v_rowMany v_taken v_found v_textLong v_at v_stopped) r) args s 0 0 A) (F0 m 0 ls []) := by
  obtain ⟨hx, hb, hr, hml, hown, hts, hlocks⟩ := id C0
  intro x1 H locs ls hf hP hD hS hl
  unfold f_X8_whole at hf
  refine lv_iload_n hx hb dX8_whole_0 rfl (lv_at hl 0 rfl) ?_
  refine lv_i2f hx hb dX8_whole_1 ?_
  obtain ⟨r2, hg2, hf⟩ := o_b1_go hf
  refine g_callSi (rest := []) ⟨hx, hb, hml, hown, hts⟩ (c_X8_place l hg2) (va_cwS 1 hts gX8_whole_X8_place rfl rfl rfl (by decide +kernel) ⟨Nat.le_of_ble_eq_true rfl, Nat.le_of_ble_eq_true rfl⟩) rfl hl.1 rfl (Nat.le_of_ble_eq_true rfl) dX8_whole_2 ?_
  have q0 := Option.some.inj hf
  subst q0
  exact g_iret hx hb hr hlocks hP hD hK hS dX8_whole_5
set_option maxHeartbeats 4000000 in
set_option maxRecDepth 100000 in
theorem c_X8_whole (l : Launch) (D : va_G) (cI cM : ClassId) (a_this a_this_all a_this_past a_this_refused a_this_box a_this_row a_this_text a_this_numbers a_this_before : Nat) (sz : Nat) (v_states : Int32) (v_empty : Int32) (v_cut : Int32) (v_rowMany : Int32) (v_taken : Int32) (v_found : Int32) (v_textLong : Int32) (v_at : Int32) (v_stopped : Int32) {x1 : Int32} {r : Int32} (hf : f_X8_whole x1 = some r) : Met l yX8_whole wsX8_whole rm_X8_whole (g_Pc D (g_tys cI cM) (ww_X8_whole cI cM a_this a_this_all a_this_past a_this_refused a_this_box a_this_row a_this_text a_this_numbers a_this_before v_states v_empty v_cut v_rowMany v_taken v_found v_textLong v_at v_stopped) sz [.ref a_this, .int x1]) (g_QI D (g_tys cI cM) (va_A (ww_X8_whole cI cM a_this a_this_all a_this_past a_this_refused a_this_box a_this_row a_this_text a_this_numbers a_this_before v_states v_empty v_cut v_rowMany v_taken v_found v_textLong v_at v_stopped) sz) (ww_X8_whole cI cM a_this a_this_all a_this_past a_this_refused a_this_box a_this_row a_this_text a_this_numbers a_this_before v_states v_empty v_cut v_rowMany v_taken v_found v_textLong v_at v_stopped) r) 0 0 (va_A (ww_X8_whole cI cM a_this a_this_all a_this_past a_this_refused a_this_box a_this_row a_this_text a_this_numbers a_this_before v_states v_empty v_cut v_rowMany v_taken v_found v_textLong v_at v_stopped) sz) := by
  refine g_met (cc := cX8_whole) (maxL := 2) (ret := (some .int)) (Qc := fun D A => g_QI D (g_tys cI cM) A (ww_X8_whole cI cM a_this a_this_all a_this_past a_this_refused a_this_box a_this_row a_this_text a_this_numbers a_this_before v_states v_empty v_cut v_rowMany v_taken v_found v_textLong v_at v_stopped) r) (by decide) rfl ?_
  intro p e s m below meth c A C0 hA hK hP hD
  have hl := lv_entry ([.ref a_this, .int x1]) (n := 2) (Nat.le_of_ble_eq_true rfl)
  rw [lg_entry_eq]
  generalize (lg_sl ([.ref a_this, .int x1]) ++ List.replicate (2 - (lg_sl ([.ref a_this, .int x1])).length) Slot.unset).toArray = ls at hl ⊢
  have hl : lv_has ls 2 [(0, .ref a_this), (1, .int x1)] := hl
  exact w_X8_whole_B0 C0 hA hK x1 s.heap [] ls hf hP hD va_S.rf (lv_sub hl [1] rfl)
/-! java/lang/Double.isNaN(D)Z -/
abbrev rm_Jxe99ae_isNaN_b9ae7 : Room := { frames := 0, cells := 0, slots := 0, locals := 0 }
def f_Jxe99ae_isNaN_b9ae7  (x0 : UInt64) : Option (Int32) :=
  if (Op.cmpValue (FP.dcmp x0 x0) .l) = 0 then
    some 0
  else
    some 1
set_option maxHeartbeats 4000000 in
set_option maxRecDepth 100000 in
theorem w_Jxe99ae_isNaN_b9ae7_B0 {p : Program} {l : Launch} {e : Env} {s : State} {m : MethodId} {args : Array Value} {below : List Frame} {meth : Method} {c : Code} {r : Int32} (C0 : g_cx cJxe99ae_isNaN_b9ae7 (some .boolean) 2 RJxe99ae wsJxe99ae_isNaN_b9ae7 p s m args meth c) : ∀ (x0 : UInt64) (ls : Array Slot), f_Jxe99ae_isNaN_b9ae7 x0 = some r → lv_has ls 2 [(0, .double x0)] → W p l e rm_Jxe99ae_isNaN_b9ae7 s m args below meth c s.heap [] 0 0 (MQ below (g_SI r) args s 0 0 (fun _ => False)) (F0 m 0 ls []) := by
  obtain ⟨hx, hb, hr, hml, hown, hts, hlocks⟩ := id C0
  intro x0 ls hf hl
  unfold f_Jxe99ae_isNaN_b9ae7 at hf
  refine lv_dload_n hx hb dJxe99ae_isNaN_b9ae7_0 rfl (lv_at hl 0 rfl) ?_
  refine lv_dload_n hx hb dJxe99ae_isNaN_b9ae7_1 rfl (lv_at hl 0 rfl) ?_
  refine lv_dcmp hx hb dJxe99ae_isNaN_b9ae7_2 ?_
  refine lv_if_eq (tgt := 10) hx hb dJxe99ae_isNaN_b9ae7_3 (by decide) (fun c3 => ?_) (fun c3 => ?_)
  · replace hf := o_t c3 hf
    refine lv_iconst (v := 0) hx hb dJxe99ae_isNaN_b9ae7_10 (by decide) ?_
    have q0 := Option.some.inj hf
    subst q0
    exact g_szret hx hb hr hlocks (by decide) dJxe99ae_isNaN_b9ae7_11
  · replace hf := o_f c3 hf
    refine lv_iconst (v := 1) hx hb dJxe99ae_isNaN_b9ae7_6 (by decide) ?_
    refine lv_goto (tgt := 11) hx hb dJxe99ae_isNaN_b9ae7_7 (by decide) ?_
    have q0 := Option.some.inj hf
    subst q0
    exact g_szret hx hb hr hlocks (by decide) dJxe99ae_isNaN_b9ae7_11
set_option maxHeartbeats 4000000 in
set_option maxRecDepth 100000 in
theorem c_Jxe99ae_isNaN_b9ae7 (l : Launch) {x0 : UInt64} {r : Int32} (hf : f_Jxe99ae_isNaN_b9ae7 x0 = some r) : Met l yJxe99ae_isNaN_b9ae7 wsJxe99ae_isNaN_b9ae7 rm_Jxe99ae_isNaN_b9ae7 (g_PS [.double x0]) (g_SI r) 0 0 (fun _ => False) := by
  refine g_metS (cc := cJxe99ae_isNaN_b9ae7) (maxL := 2) (ret := (some .boolean)) (by decide) rfl ?_
  intro p e s m below meth c C0
  have hl := lv_entry ([.double x0]) (n := 2) (Nat.le_of_ble_eq_true rfl)
  rw [lg_entry_eq]
  generalize (lg_sl ([.double x0]) ++ List.replicate (2 - (lg_sl ([.double x0])).length) Slot.unset).toArray = ls at hl ⊢
  have hl : lv_has ls 2 [(0, .double x0)] := hl
  exact w_Jxe99ae_isNaN_b9ae7_B0 C0 x0 ls hf (lv_sub hl [0] rfl)
/-! java/lang/Double.doubleToLongBits(D)J -/
abbrev rm_Jxe99ae_doubleToLongBits_ccdee : Room := { frames := 1, cells := 0, slots := 0, locals := 23 }
def f_Jxe99ae_doubleToLongBits_ccdee  (x0 : UInt64) : Option (Int64) :=
  o_b1 (f_Jxe99ae_isNaN_b9ae7 x0) (fun (r1 : Int32) =>
  if r1 = 0 then
    some x0.toInt64
  else
    some 9221120237041090560)
set_option maxHeartbeats 4000000 in
set_option maxRecDepth 100000 in
theorem w_Jxe99ae_doubleToLongBits_ccdee_B0 {p : Program} {l : Launch} {e : Env} {s : State} {m : MethodId} {args : Array Value} {below : List Frame} {meth : Method} {c : Code} {r : Int64} (C0 : g_cx cJxe99ae_doubleToLongBits_ccdee (some .long) 2 RJxe99ae wsJxe99ae_doubleToLongBits_ccdee p s m args meth c) : ∀ (x0 : UInt64) (ls : Array Slot), f_Jxe99ae_doubleToLongBits_ccdee x0 = some r → lv_has ls 2 [(0, .double x0)] → W p l e rm_Jxe99ae_doubleToLongBits_ccdee s m args below meth c s.heap [] 0 0 (MQ below (g_SL r) args s 0 0 (fun _ => False)) (F0 m 0 ls []) := by
  obtain ⟨hx, hb, hr, hml, hown, hts, hlocks⟩ := id C0
  intro x0 ls hf hl
  unfold f_Jxe99ae_doubleToLongBits_ccdee at hf
  refine lv_dload_n hx hb dJxe99ae_doubleToLongBits_ccdee_0 rfl (lv_at hl 0 rfl) ?_
  obtain ⟨r1, hg1, hf⟩ := o_b1_go hf
  refine g_callSi (rest := []) ⟨hx, hb, hml, hown, hts⟩ (c_Jxe99ae_isNaN_b9ae7 l hg1) (va_cwS 1 hts gJxe99ae_doubleToLongBits_ccdee_Jxe99ae_isNaN_b9ae7 rfl rfl rfl (by decide +kernel) ⟨Nat.le_of_ble_eq_true rfl, Nat.le_of_ble_eq_true rfl⟩) rfl hl.1 rfl (Nat.le_of_ble_eq_true rfl) dJxe99ae_doubleToLongBits_ccdee_1 ?_
  refine lv_if_ne (tgt := 12) hx hb dJxe99ae_doubleToLongBits_ccdee_4 (by decide) (fun c4 => ?_) (fun c4 => ?_)
  · replace hf := o_f c4 hf
    refine lv_ldc2 (v := 9221120237041090560) hx hb hown (hts (.constantLong RJxe99ae 137 (9221120237041090560)) (List.mem_cons_of_mem _ (List.mem_of_getElem? (i := 4) rfl))) dJxe99ae_doubleToLongBits_ccdee_12 ?_
    have q0 := Option.some.inj hf
    subst q0
    exact g_slret hx hb hr hlocks dJxe99ae_doubleToLongBits_ccdee_15
  · replace hf := o_t c4 hf
    refine lv_dload_n hx hb dJxe99ae_doubleToLongBits_ccdee_7 rfl (lv_at hl 0 rfl) ?_
    refine vn_d2l hx hb (by rw [hml]; exact hl.1.symm) hown (hts (.methodLink RJxe99ae 134 ⟨"java/lang/Double", "doubleToRawLongBits", "(D)J"⟩) (List.mem_cons_of_mem _ (List.mem_of_getElem? (i := 0) rfl))) (hts (.native ⟨"java/lang/Double", "doubleToRawLongBits", "(D)J"⟩) (List.mem_cons_of_mem _ (List.mem_of_getElem? (i := 1) rfl))) (hts (.static ⟨"java/lang/Double", "doubleToRawLongBits", "(D)J"⟩) (List.mem_cons_of_mem _ (List.mem_of_getElem? (i := 2) rfl))) (hts (.initialized "java/lang/Double") (List.mem_cons_of_mem _ (List.mem_of_getElem? (i := 3) rfl))) (Nat.le_of_ble_eq_true rfl) (Nat.le_of_ble_eq_true rfl) dJxe99ae_doubleToLongBits_ccdee_8 ?_
    have q0 := Option.some.inj hf
    subst q0
    exact g_slret hx hb hr hlocks dJxe99ae_doubleToLongBits_ccdee_11
set_option maxHeartbeats 4000000 in
set_option maxRecDepth 100000 in
theorem c_Jxe99ae_doubleToLongBits_ccdee (l : Launch) {x0 : UInt64} {r : Int64} (hf : f_Jxe99ae_doubleToLongBits_ccdee x0 = some r) : Met l yJxe99ae_doubleToLongBits_ccdee wsJxe99ae_doubleToLongBits_ccdee rm_Jxe99ae_doubleToLongBits_ccdee (g_PS [.double x0]) (g_SL r) 0 0 (fun _ => False) := by
  refine g_metS (cc := cJxe99ae_doubleToLongBits_ccdee) (maxL := 2) (ret := (some .long)) (by decide) rfl ?_
  intro p e s m below meth c C0
  have hl := lv_entry ([.double x0]) (n := 2) (Nat.le_of_ble_eq_true rfl)
  rw [lg_entry_eq]
  generalize (lg_sl ([.double x0]) ++ List.replicate (2 - (lg_sl ([.double x0])).length) Slot.unset).toArray = ls at hl ⊢
  have hl : lv_has ls 2 [(0, .double x0)] := hl
  exact w_Jxe99ae_doubleToLongBits_ccdee_B0 C0 x0 ls hf (lv_sub hl [0] rfl)
/-! FloatBoxesModel.wide(I)J -/
abbrev rm_X8_wide : Room := { frames := 2, cells := 0, slots := 0, locals := 45 }
abbrev ww_X8_wide (cI cM : ClassId) (a_this a_this_all a_this_past a_this_refused a_this_box a_this_row a_this_text a_this_numbers a_this_before : Nat) (v_states : Int32) (v_empty : Int32) (v_cut : Int32) (v_rowMany : Int32) (v_taken : Int32) (v_found : Int32) (v_textLong : Int32) (v_at : Int32) (v_stopped : Int32) (v_refused : Nat → Int32) : va_W := [(a_this, .inr (6, [.ref a_this_all, .ref a_this_past, .int v_states, .ref a_this_refused, .ref a_this_box, .int v_empty, .int v_cut, .ref a_this_row, .int v_rowMany, .int v_taken, .int v_found, .ref a_this_text, .int v_textLong, .int v_at, .ref a_this_numbers, .int v_stopped, .ref a_this_before])), (a_this_refused, .inl (cI, 3, .inl v_refused))]
def f_X8_wide  (v_refused : Nat → Int32) (x1 : Int32) : Option (Int64 × (Nat → Int32)) :=
  o_b1 (f_X8_isPlace x1) (fun (r1 : Int32) =>
  if r1 = 0 then
    o_b2 (f_X8_refuses v_refused ((-2139095050))) (fun (r10 : Int32) (v_refused_10 : Nat → Int32) =>
    some ((-1), v_refused_10))
  else
    o_b1 (f_X8_number x1) (fun (r19 : UInt32) =>
    o_ck (decide ((FP.f2d r19) &&& 0x7fffffffffffffff ≤ (0x7ff0000000000000 : UInt64))) (
    o_b1 (f_Jxe99ae_doubleToLongBits_ccdee (FP.f2d r19)) (fun (r23 : Int64) =>
    some (r23, v_refused)))))
set_option maxHeartbeats 4000000 in
set_option maxRecDepth 100000 in
theorem w_X8_wide_B0 {p : Program} {l : Launch} {e : Env} {s : State} {m : MethodId} {args : Array Value} {below : List Frame} {meth : Method} {c : Code} {D : va_G} {cI cM : ClassId} {A : Nat → Prop} {a_this a_this_all a_this_past a_this_refused a_this_box a_this_row a_this_text a_this_numbers a_this_before : Nat} {v_states : Int32} {v_empty : Int32} {v_cut : Int32} {v_rowMany : Int32} {v_taken : Int32} {v_found : Int32} {v_textLong : Int32} {v_at : Int32} {v_stopped : Int32} {r : Int64} {o_refused : Nat → Int32} (C0 : g_cx cX8_wide (some .long) 3 RX8 wsX8_wide p s m args meth c) (hA : ∀ q, s.heap.size ≤ q → A q) (hK : va_K D vwCl (g_tys cI cM) s) : ∀ (v_refused : Nat → Int32) (x1 : Int32) (H : Heap) (locs : List Loc) (ls : Array Slot), f_X8_wide v_refused x1 = some (r, o_refused) → va_P D vwCl (ww_X8_wide cI cM a_this a_this_all a_this_past a_this_refused a_this_box a_this_row a_this_text a_this_numbers a_this_before v_states v_empty v_cut v_rowMany v_taken v_found v_textLong v_at v_stopped v_refused) H → va_D A (ww_X8_wide cI cM a_this a_this_all a_this_past a_this_refused a_this_box a_this_row a_this_text a_this_numbers a_this_before v_states v_empty v_cut v_rowMany v_taken v_found v_textLong v_at v_stopped v_refused) → va_S A s.heap H locs → lv_has ls 3 [(0, .ref a_this), (1, .int x1)] → W p l e rm_X8_wide s m args below meth c H locs 0 0 (MQ below (g_QL D (g_tys cI cM) A (ww_X8_wide cI cM a_this a_this_all a_this_past a_this_refused a_this_box a_this_row a_this_text a_this_numbers a_this_before v_states v_empty v_cut v_rowMany v_taken v_found v_textLong v_at v_stopped o_refused) r) args s 0 0 A) (F0 m 0 ls []) := by
  obtain ⟨hx, hb, hr, hml, hown, hts, hlocks⟩ := id C0
  intro v_refused x1 H locs ls hf hP hD hS hl
  unfold f_X8_wide at hf
  refine lv_iload_n hx hb dX8_wide_0 rfl (lv_at hl 1 rfl) ?_
  obtain ⟨r1, hg1, hf⟩ := o_b1_go hf
  refine g_callSi (rest := []) ⟨hx, hb, hml, hown, hts⟩ (c_X8_isPlace l hg1) (va_cwS 1 hts gX8_wide_X8_isPlace rfl rfl rfl (by decide +kernel) ⟨Nat.le_of_ble_eq_true rfl, Nat.le_of_ble_eq_true rfl⟩) rfl hl.1 rfl (Nat.le_of_ble_eq_true rfl) dX8_wide_1 ?_
  refine lv_if_ne (tgt := 18) hx hb dX8_wide_4 (by decide) (fun c4 => ?_) (fun c4 => ?_)
  · replace hf := o_f c4 hf
    refine lv_iload_n hx hb dX8_wide_18 rfl (lv_at hl 1 rfl) ?_
    obtain ⟨r19, hg19, hf⟩ := o_b1_go hf
    refine g_callSf (rest := []) ⟨hx, hb, hml, hown, hts⟩ (c_X8_number l hg19) (va_cwS 1 hts gX8_wide_X8_number rfl rfl rfl (by decide +kernel) ⟨Nat.le_of_ble_eq_true rfl, Nat.le_of_ble_eq_true rfl⟩) rfl hl.1 rfl (Nat.le_of_ble_eq_true rfl) dX8_wide_19 ?_
    obtain ⟨h22, hf⟩ := o_ck_go hf
    replace h22 := of_decide_eq_true h22
    refine lv_f2d hx hb dX8_wide_22 h22 ?_
    obtain ⟨r23, hg23, hf⟩ := o_b1_go hf
    refine g_callSl (rest := []) ⟨hx, hb, hml, hown, hts⟩ (c_Jxe99ae_doubleToLongBits_ccdee l hg23) (va_cwS 1 hts gX8_wide_Jxe99ae_doubleToLongBits_ccdee rfl rfl rfl (by decide +kernel) ⟨Nat.le_of_ble_eq_true rfl, Nat.le_of_ble_eq_true rfl⟩) rfl hl.1 rfl (Nat.le_of_ble_eq_true rfl) dX8_wide_23 ?_
    obtain ⟨q0, y0⟩ := o_rp hf
    have q1 := Option.some.inj y0
    subst q0 q1
    exact g_lret hx hb hr hlocks hP hD hK hS dX8_wide_26
  · replace hf := o_t c4 hf
    refine lv_aload_n hx hb dX8_wide_7 rfl (lv_at hl 0 rfl) ?_
    refine lv_ldc (v := (-2139095050)) hx hb hown (hts (.constant RX8 42 (-2139095050)) (List.mem_cons_of_mem _ (List.mem_append_left _ (List.mem_append_left _ (List.mem_of_getElem? (i := 0) rfl))))) dX8_wide_8 ?_
    obtain ⟨r10, v_refused_10, hg10, hf⟩ := o_b2_go hf
    refine g_callVi (wn := (ww_X8_wide cI cM a_this a_this_all a_this_past a_this_refused a_this_box a_this_row a_this_text a_this_numbers a_this_before v_states v_empty v_cut v_rowMany v_taken v_found v_textLong v_at v_stopped v_refused_10)) (rest := []) ⟨hx, hb, hml, hown, hts⟩ (c_X8_refuses l D cI cM a_this a_this_all a_this_past a_this_refused a_this_box a_this_row a_this_text a_this_numbers a_this_before H.size v_states v_empty v_cut v_rowMany v_taken v_found v_textLong v_at v_stopped v_refused hg10) (cwV 1 hts gX8_wide_X8_refuses rfl rfl rfl (by decide +kernel) ⟨Nat.le_of_ble_eq_true rfl, Nat.le_of_ble_eq_true rfl⟩) hK hP hD hS hA [0, 1] [] [0, 1] rfl rfl rfl rfl rfl rfl (by decide) rfl rfl rfl hl.1 rfl (Nat.le_of_ble_eq_true rfl) dX8_wide_10 (fun H locs hP hD hS => ?_)
    refine lv_istore_n (lv' := [(2, .int r10), (0, .ref a_this), (1, .int x1)]) hx hb dX8_wide_13 rfl hl (by decide) rfl (fun ls hl => ?_)
    refine lv_ldc2 (v := (-1)) hx hb hown (hts (.constantLong RX8 190 (-1)) (List.mem_cons_of_mem _ (List.mem_append_left _ (List.mem_append_left _ (List.mem_of_getElem? (i := 1) rfl))))) dX8_wide_14 ?_
    obtain ⟨q0, y0⟩ := o_rp hf
    have q1 := Option.some.inj y0
    subst q0 q1
    exact g_lret hx hb hr hlocks hP hD hK hS dX8_wide_17
set_option maxHeartbeats 4000000 in
set_option maxRecDepth 100000 in
theorem c_X8_wide (l : Launch) (D : va_G) (cI cM : ClassId) (a_this a_this_all a_this_past a_this_refused a_this_box a_this_row a_this_text a_this_numbers a_this_before : Nat) (sz : Nat) (v_states : Int32) (v_empty : Int32) (v_cut : Int32) (v_rowMany : Int32) (v_taken : Int32) (v_found : Int32) (v_textLong : Int32) (v_at : Int32) (v_stopped : Int32) (v_refused : Nat → Int32) {x1 : Int32} {r : Int64} {o_refused : Nat → Int32} (hf : f_X8_wide v_refused x1 = some (r, o_refused)) : Met l yX8_wide wsX8_wide rm_X8_wide (g_Pc D (g_tys cI cM) (ww_X8_wide cI cM a_this a_this_all a_this_past a_this_refused a_this_box a_this_row a_this_text a_this_numbers a_this_before v_states v_empty v_cut v_rowMany v_taken v_found v_textLong v_at v_stopped v_refused) sz [.ref a_this, .int x1]) (g_QL D (g_tys cI cM) (va_A (ww_X8_wide cI cM a_this a_this_all a_this_past a_this_refused a_this_box a_this_row a_this_text a_this_numbers a_this_before v_states v_empty v_cut v_rowMany v_taken v_found v_textLong v_at v_stopped v_refused) sz) (ww_X8_wide cI cM a_this a_this_all a_this_past a_this_refused a_this_box a_this_row a_this_text a_this_numbers a_this_before v_states v_empty v_cut v_rowMany v_taken v_found v_textLong v_at v_stopped o_refused) r) 0 0 (va_A (ww_X8_wide cI cM a_this a_this_all a_this_past a_this_refused a_this_box a_this_row a_this_text a_this_numbers a_this_before v_states v_empty v_cut v_rowMany v_taken v_found v_textLong v_at v_stopped v_refused) sz) := by
  refine g_met (cc := cX8_wide) (maxL := 3) (ret := (some .long)) (Qc := fun D A => g_QL D (g_tys cI cM) A (ww_X8_wide cI cM a_this a_this_all a_this_past a_this_refused a_this_box a_this_row a_this_text a_this_numbers a_this_before v_states v_empty v_cut v_rowMany v_taken v_found v_textLong v_at v_stopped o_refused) r) (by decide) rfl ?_
  intro p e s m below meth c A C0 hA hK hP hD
  have hl := lv_entry ([.ref a_this, .int x1]) (n := 3) (Nat.le_of_ble_eq_true rfl)
  rw [lg_entry_eq]
  generalize (lg_sl ([.ref a_this, .int x1]) ++ List.replicate (3 - (lg_sl ([.ref a_this, .int x1])).length) Slot.unset).toArray = ls at hl ⊢
  have hl : lv_has ls 3 [(0, .ref a_this), (1, .int x1)] := hl
  exact w_X8_wide_B0 C0 hA hK v_refused x1 s.heap [] ls hf hP hD va_S.rf (lv_sub hl [0, 1] rfl)
/-! FloatBoxesModel.reckons(III)I -/
abbrev rm_X8_reckons : Room := { frames := 5, cells := 0, slots := 0, locals := 107 }
abbrev ww_X8_reckons (cI cM : ClassId) (a_this a_this_all a_this_past a_this_refused a_this_box a_this_row a_this_text a_this_numbers a_this_before : Nat) (v_states : Int32) (v_empty : Int32) (v_cut : Int32) (v_rowMany : Int32) (v_taken : Int32) (v_found : Int32) (v_textLong : Int32) (v_at : Int32) (v_stopped : Int32) (v_refused : Nat → Int32) : va_W := [(a_this, .inr (6, [.ref a_this_all, .ref a_this_past, .int v_states, .ref a_this_refused, .ref a_this_box, .int v_empty, .int v_cut, .ref a_this_row, .int v_rowMany, .int v_taken, .int v_found, .ref a_this_text, .int v_textLong, .int v_at, .ref a_this_numbers, .int v_stopped, .ref a_this_before])), (a_this_refused, .inl (cI, 3, .inl v_refused))]
def f_X8_reckons_B33  (v_refused : Nat → Int32) : Option (Int32 × (Nat → Int32)) :=
  o_b2 (f_X8_refuses v_refused ((-2139095050))) (fun (r36 : Int32) (v_refused_36 : Nat → Int32) =>
  some (r36, v_refused_36))
set_option maxHeartbeats 4000000 in
set_option maxRecDepth 100000 in
theorem w_X8_reckons_B33 {p : Program} {l : Launch} {e : Env} {s : State} {m : MethodId} {args : Array Value} {below : List Frame} {meth : Method} {c : Code} {D : va_G} {cI cM : ClassId} {A : Nat → Prop} {a_this a_this_all a_this_past a_this_refused a_this_box a_this_row a_this_text a_this_numbers a_this_before : Nat} {v_states : Int32} {v_empty : Int32} {v_cut : Int32} {v_rowMany : Int32} {v_taken : Int32} {v_found : Int32} {v_textLong : Int32} {v_at : Int32} {v_stopped : Int32} {r : Int32} {o_refused : Nat → Int32} (C0 : g_cx cX8_reckons (some .int) 4 RX8 wsX8_reckons p s m args meth c) (hA : ∀ q, s.heap.size ≤ q → A q) (hK : va_K D vwCl (g_tys cI cM) s) : ∀ (v_refused : Nat → Int32) (H : Heap) (locs : List Loc) (ls : Array Slot), f_X8_reckons_B33 v_refused = some (r, o_refused) → va_P D vwCl (ww_X8_reckons cI cM a_this a_this_all a_this_past a_this_refused a_this_box a_this_row a_this_text a_this_numbers a_this_before v_states v_empty v_cut v_rowMany v_taken v_found v_textLong v_at v_stopped v_refused) H → va_D A (ww_X8_reckons cI cM a_this a_this_all a_this_past a_this_refused a_this_box a_this_row a_this_text a_this_numbers a_this_before v_states v_empty v_cut v_rowMany v_taken v_found v_textLong v_at v_stopped v_refused) → va_S A s.heap H locs → lv_has ls 4 [(0, .ref a_this)] → W p l e rm_X8_reckons s m args below meth c H locs 0 0 (MQ below (g_QI D (g_tys cI cM) A (ww_X8_reckons cI cM a_this a_this_all a_this_past a_this_refused a_this_box a_this_row a_this_text a_this_numbers a_this_before v_states v_empty v_cut v_rowMany v_taken v_found v_textLong v_at v_stopped o_refused) r) args s 0 0 A) (F0 m 33 ls []) := by
  obtain ⟨hx, hb, hr, hml, hown, hts, hlocks⟩ := id C0
  intro v_refused H locs ls hf hP hD hS hl
  unfold f_X8_reckons_B33 at hf
  refine lv_aload_n hx hb dX8_reckons_33 rfl (lv_at hl 0 rfl) ?_
  refine lv_ldc (v := (-2139095050)) hx hb hown (hts (.constant RX8 42 (-2139095050)) (List.mem_cons_of_mem _ (List.mem_append_left _ (List.mem_append_left _ (List.mem_of_getElem? (i := 0) rfl))))) dX8_reckons_34 ?_
  obtain ⟨r36, v_refused_36, hg36, hf⟩ := o_b2_go hf
  refine g_callVi (wn := (ww_X8_reckons cI cM a_this a_this_all a_this_past a_this_refused a_this_box a_this_row a_this_text a_this_numbers a_this_before v_states v_empty v_cut v_rowMany v_taken v_found v_textLong v_at v_stopped v_refused_36)) (rest := []) ⟨hx, hb, hml, hown, hts⟩ (c_X8_refuses l D cI cM a_this a_this_all a_this_past a_this_refused a_this_box a_this_row a_this_text a_this_numbers a_this_before H.size v_states v_empty v_cut v_rowMany v_taken v_found v_textLong v_at v_stopped v_refused hg36) (cwV 1 hts gX8_reckons_X8_refuses rfl rfl rfl (by decide +kernel) ⟨Nat.le_of_ble_eq_true rfl, Nat.le_of_ble_eq_true rfl⟩) hK hP hD hS hA [0, 1] [] [0, 1] rfl rfl rfl rfl rfl rfl (by decide) rfl rfl rfl hl.1 rfl (Nat.le_of_ble_eq_true rfl) dX8_reckons_36 (fun H locs hP hD hS => ?_)
  obtain ⟨q0, y0⟩ := o_rp hf
  have q1 := Option.some.inj y0
  subst q0 q1
  exact g_iret hx hb hr hlocks hP hD hK hS dX8_reckons_39
def f_X8_reckons  (v_refused : Nat → Int32) (x1 : Int32) (x2 : Int32) (x3 : Int32) : Option (Int32 × (Nat → Int32)) :=
  o_b1 (f_X8_in x1.toInt64 0 1) (fun (r4 : Int32) =>
  if r4 = 0 then
    f_X8_reckons_B33 v_refused
  else
    o_b1 (f_X8_isPlace x2) (fun (r11 : Int32) =>
    if r11 = 0 then
      f_X8_reckons_B33 v_refused
    else
      o_b1 (f_X8_isPlace x3) (fun (r18 : Int32) =>
      if r18 = 0 then
        f_X8_reckons_B33 v_refused
      else
        o_b1 (f_X8_reckoned x1 x2 x3) (fun (r27 : Int32) =>
        some (r27, v_refused)))))
set_option maxHeartbeats 4000000 in
set_option maxRecDepth 100000 in
theorem w_X8_reckons_B0 {p : Program} {l : Launch} {e : Env} {s : State} {m : MethodId} {args : Array Value} {below : List Frame} {meth : Method} {c : Code} {D : va_G} {cI cM : ClassId} {A : Nat → Prop} {a_this a_this_all a_this_past a_this_refused a_this_box a_this_row a_this_text a_this_numbers a_this_before : Nat} {v_states : Int32} {v_empty : Int32} {v_cut : Int32} {v_rowMany : Int32} {v_taken : Int32} {v_found : Int32} {v_textLong : Int32} {v_at : Int32} {v_stopped : Int32} {r : Int32} {o_refused : Nat → Int32} (C0 : g_cx cX8_reckons (some .int) 4 RX8 wsX8_reckons p s m args meth c) (hA : ∀ q, s.heap.size ≤ q → A q) (hK : va_K D vwCl (g_tys cI cM) s) : ∀ (v_refused : Nat → Int32) (x1 : Int32) (x2 : Int32) (x3 : Int32) (H : Heap) (locs : List Loc) (ls : Array Slot), f_X8_reckons v_refused x1 x2 x3 = some (r, o_refused) → va_P D vwCl (ww_X8_reckons cI cM a_this a_this_all a_this_past a_this_refused a_this_box a_this_row a_this_text a_this_numbers a_this_before v_states v_empty v_cut v_rowMany v_taken v_found v_textLong v_at v_stopped v_refused) H → va_D A (ww_X8_reckons cI cM a_this a_this_all a_this_past a_this_refused a_this_box a_this_row a_this_text a_this_numbers a_this_before v_states v_empty v_cut v_rowMany v_taken v_found v_textLong v_at v_stopped v_refused) → va_S A s.heap H locs → lv_has ls 4 [(0, .ref a_this), (1, .int x1), (2, .int x2), (3, .int x3)] → W p l e rm_X8_reckons s m args below meth c H locs 0 0 (MQ below (g_QI D (g_tys cI cM) A (ww_X8_reckons cI cM a_this a_this_all a_this_past a_this_refused a_this_box a_this_row a_this_text a_this_numbers a_this_before v_states v_empty v_cut v_rowMany v_taken v_found v_textLong v_at v_stopped o_refused) r) args s 0 0 A) (F0 m 0 ls []) := by
  obtain ⟨hx, hb, hr, hml, hown, hts, hlocks⟩ := id C0
  intro v_refused x1 x2 x3 H locs ls hf hP hD hS hl
  unfold f_X8_reckons at hf
  refine lv_iload_n hx hb dX8_reckons_0 rfl (lv_at hl 1 rfl) ?_
  refine lv_i2l hx hb dX8_reckons_1 rfl ?_
  refine lv_lconst (v := 0) hx hb dX8_reckons_2 (by decide) ?_
  refine lv_lconst (v := 1) hx hb dX8_reckons_3 (by decide) ?_
  obtain ⟨r4, hg4, hf⟩ := o_b1_go hf
  refine g_callSi (rest := []) ⟨hx, hb, hml, hown, hts⟩ (c_X8_in l hg4) (va_cwS 3 hts gX8_reckons_X8_in rfl rfl rfl (by decide +kernel) ⟨Nat.le_of_ble_eq_true rfl, Nat.le_of_ble_eq_true rfl⟩) rfl hl.1 rfl (Nat.le_of_ble_eq_true rfl) dX8_reckons_4 ?_
  refine lv_if_eq (tgt := 33) hx hb dX8_reckons_7 (by decide) (fun c7 => ?_) (fun c7 => ?_)
  · replace hf := o_t c7 hf
    exact w_X8_reckons_B33 C0 hA hK v_refused H locs ls hf hP hD hS (lv_sub hl [0] rfl)
  · replace hf := o_f c7 hf
    refine lv_iload_n hx hb dX8_reckons_10 rfl (lv_at hl 2 rfl) ?_
    obtain ⟨r11, hg11, hf⟩ := o_b1_go hf
    refine g_callSi (rest := []) ⟨hx, hb, hml, hown, hts⟩ (c_X8_isPlace l hg11) (va_cwS 1 hts gX8_reckons_X8_isPlace rfl rfl rfl (by decide +kernel) ⟨Nat.le_of_ble_eq_true rfl, Nat.le_of_ble_eq_true rfl⟩) rfl hl.1 rfl (Nat.le_of_ble_eq_true rfl) dX8_reckons_11 ?_
    refine lv_if_eq (tgt := 33) hx hb dX8_reckons_14 (by decide) (fun c14 => ?_) (fun c14 => ?_)
    · replace hf := o_t c14 hf
      exact w_X8_reckons_B33 C0 hA hK v_refused H locs ls hf hP hD hS (lv_sub hl [0] rfl)
    · replace hf := o_f c14 hf
      refine lv_iload_n hx hb dX8_reckons_17 rfl (lv_at hl 3 rfl) ?_
      obtain ⟨r18, hg18, hf⟩ := o_b1_go hf
      refine g_callSi (rest := []) ⟨hx, hb, hml, hown, hts⟩ (c_X8_isPlace l hg18) (va_cwS 1 hts gX8_reckons_X8_isPlace rfl rfl rfl (by decide +kernel) ⟨Nat.le_of_ble_eq_true rfl, Nat.le_of_ble_eq_true rfl⟩) rfl hl.1 rfl (Nat.le_of_ble_eq_true rfl) dX8_reckons_18 ?_
      refine lv_if_eq (tgt := 33) hx hb dX8_reckons_21 (by decide) (fun c21 => ?_) (fun c21 => ?_)
      · replace hf := o_t c21 hf
        exact w_X8_reckons_B33 C0 hA hK v_refused H locs ls hf hP hD hS (lv_sub hl [0] rfl)
      · replace hf := o_f c21 hf
        refine lv_iload_n hx hb dX8_reckons_24 rfl (lv_at hl 1 rfl) ?_
        refine lv_iload_n hx hb dX8_reckons_25 rfl (lv_at hl 2 rfl) ?_
        refine lv_iload_n hx hb dX8_reckons_26 rfl (lv_at hl 3 rfl) ?_
        obtain ⟨r27, hg27, hf⟩ := o_b1_go hf
        refine g_callSi (rest := []) ⟨hx, hb, hml, hown, hts⟩ (c_X8_reckoned l hg27) (va_cwS 3 hts gX8_reckons_X8_reckoned rfl rfl rfl (by decide +kernel) ⟨Nat.le_of_ble_eq_true rfl, Nat.le_of_ble_eq_true rfl⟩) rfl hl.1 rfl (Nat.le_of_ble_eq_true rfl) dX8_reckons_27 ?_
        refine lv_goto (tgt := 39) hx hb dX8_reckons_30 (by decide) ?_
        obtain ⟨q0, y0⟩ := o_rp hf
        have q1 := Option.some.inj y0
        subst q0 q1
        exact g_iret hx hb hr hlocks hP hD hK hS dX8_reckons_39
set_option maxHeartbeats 4000000 in
set_option maxRecDepth 100000 in
theorem c_X8_reckons (l : Launch) (D : va_G) (cI cM : ClassId) (a_this a_this_all a_this_past a_this_refused a_this_box a_this_row a_this_text a_this_numbers a_this_before : Nat) (sz : Nat) (v_states : Int32) (v_empty : Int32) (v_cut : Int32) (v_rowMany : Int32) (v_taken : Int32) (v_found : Int32) (v_textLong : Int32) (v_at : Int32) (v_stopped : Int32) (v_refused : Nat → Int32) {x1 : Int32} {x2 : Int32} {x3 : Int32} {r : Int32} {o_refused : Nat → Int32} (hf : f_X8_reckons v_refused x1 x2 x3 = some (r, o_refused)) : Met l yX8_reckons wsX8_reckons rm_X8_reckons (g_Pc D (g_tys cI cM) (ww_X8_reckons cI cM a_this a_this_all a_this_past a_this_refused a_this_box a_this_row a_this_text a_this_numbers a_this_before v_states v_empty v_cut v_rowMany v_taken v_found v_textLong v_at v_stopped v_refused) sz [.ref a_this, .int x1, .int x2, .int x3]) (g_QI D (g_tys cI cM) (va_A (ww_X8_reckons cI cM a_this a_this_all a_this_past a_this_refused a_this_box a_this_row a_this_text a_this_numbers a_this_before v_states v_empty v_cut v_rowMany v_taken v_found v_textLong v_at v_stopped v_refused) sz) (ww_X8_reckons cI cM a_this a_this_all a_this_past a_this_refused a_this_box a_this_row a_this_text a_this_numbers a_this_before v_states v_empty v_cut v_rowMany v_taken v_found v_textLong v_at v_stopped o_refused) r) 0 0 (va_A (ww_X8_reckons cI cM a_this a_this_all a_this_past a_this_refused a_this_box a_this_row a_this_text a_this_numbers a_this_before v_states v_empty v_cut v_rowMany v_taken v_found v_textLong v_at v_stopped v_refused) sz) := by
  refine g_met (cc := cX8_reckons) (maxL := 4) (ret := (some .int)) (Qc := fun D A => g_QI D (g_tys cI cM) A (ww_X8_reckons cI cM a_this a_this_all a_this_past a_this_refused a_this_box a_this_row a_this_text a_this_numbers a_this_before v_states v_empty v_cut v_rowMany v_taken v_found v_textLong v_at v_stopped o_refused) r) (by decide) rfl ?_
  intro p e s m below meth c A C0 hA hK hP hD
  have hl := lv_entry ([.ref a_this, .int x1, .int x2, .int x3]) (n := 4) (Nat.le_of_ble_eq_true rfl)
  rw [lg_entry_eq]
  generalize (lg_sl ([.ref a_this, .int x1, .int x2, .int x3]) ++ List.replicate (4 - (lg_sl ([.ref a_this, .int x1, .int x2, .int x3])).length) Slot.unset).toArray = ls at hl ⊢
  have hl : lv_has ls 4 [(0, .ref a_this), (1, .int x1), (2, .int x2), (3, .int x3)] := hl
  exact w_X8_reckons_B0 C0 hA hK v_refused x1 x2 x3 s.heap [] ls hf hP hD va_S.rf (lv_sub hl [0, 1, 2, 3] rfl)
/-! FloatBoxesModel.type(I)I -/
abbrev rm_X8_type : Room := { frames := 1, cells := 0, slots := 0, locals := 25 }
abbrev ww_X8_type (cI cM : ClassId) (a_this a_this_all a_this_past a_this_refused a_this_box a_this_row a_this_text a_this_numbers a_this_before : Nat) (v_states : Int32) (v_empty : Int32) (v_cut : Int32) (v_rowMany : Int32) (v_taken : Int32) (v_found : Int32) (v_textLong : Int32) (v_at : Int32) (v_stopped : Int32) (v_text : Nat → Int32) (v_refused : Nat → Int32) : va_W := [(a_this, .inr (6, [.ref a_this_all, .ref a_this_past, .int v_states, .ref a_this_refused, .ref a_this_box, .int v_empty, .int v_cut, .ref a_this_row, .int v_rowMany, .int v_taken, .int v_found, .ref a_this_text, .int v_textLong, .int v_at, .ref a_this_numbers, .int v_stopped, .ref a_this_before])), (a_this_text, .inl (cI, 120, .inl v_text)), (a_this_refused, .inl (cI, 3, .inl v_refused))]
def f_X8_type  (v_textLong : Int32) (v_text : Nat → Int32) (v_refused : Nat → Int32) (x1 : Int32) : Option (Int32 × Int32 × (Nat → Int32) × (Nat → Int32)) :=
  o_b1 (f_X8_in x1.toInt64 0 127) (fun (r6 : Int32) =>
  if r6 = 0 then
    o_b2 (f_X8_refuses v_refused ((-2139095050))) (fun (r15 : Int32) (v_refused_15 : Nat → Int32) =>
    some (r15, v_textLong, v_text, v_refused_15))
  else
    if v_textLong = 120 then
      o_b2 (f_X8_refuses v_refused ((-2139095052))) (fun (r31 : Int32) (v_refused_31 : Nat → Int32) =>
      some (r31, v_textLong, v_text, v_refused_31))
    else
      o_in v_textLong 120 (
      some (v_textLong + 1, v_textLong + 1, upd v_text v_textLong.toNatClampNeg x1, v_refused)))
set_option maxHeartbeats 4000000 in
set_option maxRecDepth 100000 in
theorem w_X8_type_B0 {p : Program} {l : Launch} {e : Env} {s : State} {m : MethodId} {args : Array Value} {below : List Frame} {meth : Method} {c : Code} {D : va_G} {cI cM : ClassId} {A : Nat → Prop} {a_this a_this_all a_this_past a_this_refused a_this_box a_this_row a_this_text a_this_numbers a_this_before : Nat} {v_states : Int32} {v_empty : Int32} {v_cut : Int32} {v_rowMany : Int32} {v_taken : Int32} {v_found : Int32} {v_at : Int32} {v_stopped : Int32} {r : Int32} {o_textLong : Int32} {o_text : Nat → Int32} {o_refused : Nat → Int32} (C0 : g_cx cX8_type (some .int) 2 RX8 wsX8_type p s m args meth c) (hA : ∀ q, s.heap.size ≤ q → A q) (hK : va_K D vwCl (g_tys cI cM) s) : ∀ (v_textLong : Int32) (v_text : Nat → Int32) (v_refused : Nat → Int32) (x1 : Int32) (H : Heap) (locs : List Loc) (ls : Array Slot), f_X8_type v_textLong v_text v_refused x1 = some (r, o_textLong, o_text, o_refused) → va_P D vwCl (ww_X8_type cI cM a_this a_this_all a_this_past a_this_refused a_this_box a_this_row a_this_text a_this_numbers a_this_before v_states v_empty v_cut v_rowMany v_taken v_found v_textLong v_at v_stopped v_text v_refused) H → va_D A (ww_X8_type cI cM a_this a_this_all a_this_past a_this_refused a_this_box a_this_row a_this_text a_this_numbers a_this_before v_states v_empty v_cut v_rowMany v_taken v_found v_textLong v_at v_stopped v_text v_refused) → va_S A s.heap H locs → lv_has ls 2 [(0, .ref a_this), (1, .int x1)] → W p l e rm_X8_type s m args below meth c H locs 0 0 (MQ below (g_QI D (g_tys cI cM) A (ww_X8_type cI cM a_this a_this_all a_this_past a_this_refused a_this_box a_this_row a_this_text a_this_numbers a_this_before v_states v_empty v_cut v_rowMany v_taken v_found o_textLong v_at v_stopped o_text o_refused) r) args s 0 0 A) (F0 m 0 ls []) := by
  obtain ⟨hx, hb, hr, hml, hown, hts, hlocks⟩ := id C0
  intro v_textLong v_text v_refused x1 H locs ls hf hP hD hS hl
  unfold f_X8_type at hf
  refine lv_iload_n hx hb dX8_type_0 rfl (lv_at hl 1 rfl) ?_
  refine lv_i2l hx hb dX8_type_1 rfl ?_
  refine lv_lconst (v := 0) hx hb dX8_type_2 (by decide) ?_
  refine lv_ldc2 (v := 127) hx hb hown (hts (.constantLong RX8 275 (127)) (List.mem_cons_of_mem _ (List.mem_append_left _ (List.mem_of_getElem? (i := 0) rfl)))) dX8_type_3 ?_
  obtain ⟨r6, hg6, hf⟩ := o_b1_go hf
  refine g_callSi (rest := []) ⟨hx, hb, hml, hown, hts⟩ (c_X8_in l hg6) (va_cwS 3 hts gX8_type_X8_in rfl rfl rfl (by decide +kernel) ⟨Nat.le_of_ble_eq_true rfl, Nat.le_of_ble_eq_true rfl⟩) rfl hl.1 rfl (Nat.le_of_ble_eq_true rfl) dX8_type_6 ?_
  refine lv_if_ne (tgt := 19) hx hb dX8_type_9 (by decide) (fun c9 => ?_) (fun c9 => ?_)
  · replace hf := o_f c9 hf
    refine lv_aload_n hx hb dX8_type_19 rfl (lv_at hl 0 rfl) ?_
    refine va_get (D := D) (ci := 6) (v := .int v_textLong) (C := RX8) (T := TX8) (N := 17) hx hb hts (fun _ h => (List.mem_cons_of_mem _ (List.mem_append_right _ h))) hown hK hP 0 rfl rfl 12 (by decide) (hts (.fieldLink RX8 277 "FloatBoxesModel" "textLong" "I") (List.mem_cons_of_mem _ (List.mem_append_left _ (List.mem_of_getElem? (i := 2) rfl)))) (fun _ h9 => h9) rfl dX8_type_20 ?_
    refine lv_bipush (v := 120) hx hb dX8_type_23 (by decide) ?_
    refine lv_icmp_ne (tgt := 35) hx hb dX8_type_25 (by decide) (fun c25 => ?_) (fun c25 => ?_)
    · replace hf := o_f c25 hf
      refine lv_aload_n hx hb dX8_type_35 rfl (lv_at hl 0 rfl) ?_
      refine va_get (D := D) (ci := 6) (v := .ref a_this_text) (C := RX8) (T := TX8) (N := 17) hx hb hts (fun _ h => (List.mem_cons_of_mem _ (List.mem_append_right _ h))) hown hK hP 0 rfl rfl 11 (by decide) (hts (.fieldLink RX8 25 "FloatBoxesModel" "text" "[I") (List.mem_cons_of_mem _ (List.mem_append_left _ (List.mem_of_getElem? (i := 4) rfl)))) (fun _ h9 => h9) rfl dX8_type_36 ?_
      refine lv_aload_n hx hb dX8_type_39 rfl (lv_at hl 0 rfl) ?_
      refine va_get (D := D) (ci := 6) (v := .int v_textLong) (C := RX8) (T := TX8) (N := 17) hx hb hts (fun _ h => (List.mem_cons_of_mem _ (List.mem_append_right _ h))) hown hK hP 0 rfl rfl 12 (by decide) (hts (.fieldLink RX8 277 "FloatBoxesModel" "textLong" "I") (List.mem_cons_of_mem _ (List.mem_append_left _ (List.mem_of_getElem? (i := 2) rfl)))) (fun _ h9 => h9) rfl dX8_type_40 ?_
      refine lv_iload_n hx hb dX8_type_43 rfl (lv_at hl 1 rfl) ?_
      obtain ⟨h44, hf⟩ := o_in_go hf
      refine va_iast hx hb hK hP hD hS 1 0 rfl rfl h44 dX8_type_44 (fun H locs hP hD hS => ?_)
      replace hP : va_P D vwCl (ww_X8_type cI cM a_this a_this_all a_this_past a_this_refused a_this_box a_this_row a_this_text a_this_numbers a_this_before v_states v_empty v_cut v_rowMany v_taken v_found v_textLong v_at v_stopped (upd v_text v_textLong.toNatClampNeg x1) v_refused) H := hP
      replace hD : va_D A (ww_X8_type cI cM a_this a_this_all a_this_past a_this_refused a_this_box a_this_row a_this_text a_this_numbers a_this_before v_states v_empty v_cut v_rowMany v_taken v_found v_textLong v_at v_stopped (upd v_text v_textLong.toNatClampNeg x1) v_refused) := hD
      refine lv_aload_n hx hb dX8_type_45 rfl (lv_at hl 0 rfl) ?_
      refine lv_dup hx hb dX8_type_46 rfl ?_
      refine va_get (D := D) (ci := 6) (v := .int v_textLong) (C := RX8) (T := TX8) (N := 17) hx hb hts (fun _ h => (List.mem_cons_of_mem _ (List.mem_append_right _ h))) hown hK hP 0 rfl rfl 12 (by decide) (hts (.fieldLink RX8 277 "FloatBoxesModel" "textLong" "I") (List.mem_cons_of_mem _ (List.mem_append_left _ (List.mem_of_getElem? (i := 2) rfl)))) (fun _ h9 => h9) rfl dX8_type_47 ?_
      refine lv_iconst (v := 1) hx hb dX8_type_50 (by decide) ?_
      refine lv_iadd hx hb dX8_type_51 ?_
      refine va_put (D := D) (ci := 6) (v := .int (v_textLong + 1)) (ty := .int) (C := RX8) (T := TX8) (N := 17) hx hb hts (fun _ h => (List.mem_cons_of_mem _ (List.mem_append_right _ h))) tyX8 tyX8_ok nmX8 hown hK hP hD hS 0 rfl rfl 12 (by decide) (hts (.fieldLink RX8 277 "FloatBoxesModel" "textLong" "I") (List.mem_cons_of_mem _ (List.mem_append_left _ (List.mem_of_getElem? (i := 2) rfl)))) (fun _ h9 => h9) rfl (by decide +kernel) rfl rfl (Nat.le_of_ble_eq_true rfl) dX8_type_52 (fun H locs hP hD hS => ?_)
      replace hP : va_P D vwCl (ww_X8_type cI cM a_this a_this_all a_this_past a_this_refused a_this_box a_this_row a_this_text a_this_numbers a_this_before v_states v_empty v_cut v_rowMany v_taken v_found (v_textLong + 1) v_at v_stopped (upd v_text v_textLong.toNatClampNeg x1) v_refused) H := hP
      replace hD : va_D A (ww_X8_type cI cM a_this a_this_all a_this_past a_this_refused a_this_box a_this_row a_this_text a_this_numbers a_this_before v_states v_empty v_cut v_rowMany v_taken v_found (v_textLong + 1) v_at v_stopped (upd v_text v_textLong.toNatClampNeg x1) v_refused) := hD
      refine lv_aload_n hx hb dX8_type_55 rfl (lv_at hl 0 rfl) ?_
      refine va_get (D := D) (ci := 6) (v := .int (v_textLong + 1)) (C := RX8) (T := TX8) (N := 17) hx hb hts (fun _ h => (List.mem_cons_of_mem _ (List.mem_append_right _ h))) hown hK hP 0 rfl rfl 12 (by decide) (hts (.fieldLink RX8 277 "FloatBoxesModel" "textLong" "I") (List.mem_cons_of_mem _ (List.mem_append_left _ (List.mem_of_getElem? (i := 2) rfl)))) (fun _ h9 => h9) rfl dX8_type_56 ?_
      obtain ⟨q0, y0⟩ := o_rp hf
      obtain ⟨q1, y1⟩ := o_rp y0
      obtain ⟨q2, y2⟩ := o_rp y1
      have q3 := Option.some.inj y2
      subst q0 q1 q2 q3
      exact g_iret hx hb hr hlocks hP hD hK hS dX8_type_59
    · replace hf := o_t c25 hf
      refine lv_aload_n hx hb dX8_type_28 rfl (lv_at hl 0 rfl) ?_
      refine lv_ldc (v := (-2139095052)) hx hb hown (hts (.constant RX8 83 (-2139095052)) (List.mem_cons_of_mem _ (List.mem_append_left _ (List.mem_of_getElem? (i := 3) rfl)))) dX8_type_29 ?_
      obtain ⟨r31, v_refused_31, hg31, hf⟩ := o_b2_go hf
      refine g_callVi (wn := (ww_X8_type cI cM a_this a_this_all a_this_past a_this_refused a_this_box a_this_row a_this_text a_this_numbers a_this_before v_states v_empty v_cut v_rowMany v_taken v_found v_textLong v_at v_stopped v_text v_refused_31)) (rest := []) ⟨hx, hb, hml, hown, hts⟩ (c_X8_refuses l D cI cM a_this a_this_all a_this_past a_this_refused a_this_box a_this_row a_this_text a_this_numbers a_this_before H.size v_states v_empty v_cut v_rowMany v_taken v_found v_textLong v_at v_stopped v_refused hg31) (cwV 1 hts gX8_type_X8_refuses rfl rfl rfl (by decide +kernel) ⟨Nat.le_of_ble_eq_true rfl, Nat.le_of_ble_eq_true rfl⟩) hK hP hD hS hA [0, 2] [1] [1, 0, 2] rfl rfl rfl rfl rfl rfl (by decide) rfl rfl rfl hl.1 rfl (Nat.le_of_ble_eq_true rfl) dX8_type_31 (fun H locs hP hD hS => ?_)
      obtain ⟨q0, y0⟩ := o_rp hf
      obtain ⟨q1, y1⟩ := o_rp y0
      obtain ⟨q2, y2⟩ := o_rp y1
      have q3 := Option.some.inj y2
      subst q0 q1 q2 q3
      exact g_iret hx hb hr hlocks hP hD hK hS dX8_type_34
  · replace hf := o_t c9 hf
    refine lv_aload_n hx hb dX8_type_12 rfl (lv_at hl 0 rfl) ?_
    refine lv_ldc (v := (-2139095050)) hx hb hown (hts (.constant RX8 42 (-2139095050)) (List.mem_cons_of_mem _ (List.mem_append_left _ (List.mem_of_getElem? (i := 1) rfl)))) dX8_type_13 ?_
    obtain ⟨r15, v_refused_15, hg15, hf⟩ := o_b2_go hf
    refine g_callVi (wn := (ww_X8_type cI cM a_this a_this_all a_this_past a_this_refused a_this_box a_this_row a_this_text a_this_numbers a_this_before v_states v_empty v_cut v_rowMany v_taken v_found v_textLong v_at v_stopped v_text v_refused_15)) (rest := []) ⟨hx, hb, hml, hown, hts⟩ (c_X8_refuses l D cI cM a_this a_this_all a_this_past a_this_refused a_this_box a_this_row a_this_text a_this_numbers a_this_before H.size v_states v_empty v_cut v_rowMany v_taken v_found v_textLong v_at v_stopped v_refused hg15) (cwV 1 hts gX8_type_X8_refuses rfl rfl rfl (by decide +kernel) ⟨Nat.le_of_ble_eq_true rfl, Nat.le_of_ble_eq_true rfl⟩) hK hP hD hS hA [0, 2] [1] [1, 0, 2] rfl rfl rfl rfl rfl rfl (by decide) rfl rfl rfl hl.1 rfl (Nat.le_of_ble_eq_true rfl) dX8_type_15 (fun H locs hP hD hS => ?_)
    obtain ⟨q0, y0⟩ := o_rp hf
    obtain ⟨q1, y1⟩ := o_rp y0
    obtain ⟨q2, y2⟩ := o_rp y1
    have q3 := Option.some.inj y2
    subst q0 q1 q2 q3
    exact g_iret hx hb hr hlocks hP hD hK hS dX8_type_18
set_option maxHeartbeats 4000000 in
set_option maxRecDepth 100000 in
theorem c_X8_type (l : Launch) (D : va_G) (cI cM : ClassId) (a_this a_this_all a_this_past a_this_refused a_this_box a_this_row a_this_text a_this_numbers a_this_before : Nat) (sz : Nat) (v_states : Int32) (v_empty : Int32) (v_cut : Int32) (v_rowMany : Int32) (v_taken : Int32) (v_found : Int32) (v_textLong : Int32) (v_at : Int32) (v_stopped : Int32) (v_text : Nat → Int32) (v_refused : Nat → Int32) {x1 : Int32} {r : Int32} {o_textLong : Int32} {o_text : Nat → Int32} {o_refused : Nat → Int32} (hf : f_X8_type v_textLong v_text v_refused x1 = some (r, o_textLong, o_text, o_refused)) : Met l yX8_type wsX8_type rm_X8_type (g_Pc D (g_tys cI cM) (ww_X8_type cI cM a_this a_this_all a_this_past a_this_refused a_this_box a_this_row a_this_text a_this_numbers a_this_before v_states v_empty v_cut v_rowMany v_taken v_found v_textLong v_at v_stopped v_text v_refused) sz [.ref a_this, .int x1]) (g_QI D (g_tys cI cM) (va_A (ww_X8_type cI cM a_this a_this_all a_this_past a_this_refused a_this_box a_this_row a_this_text a_this_numbers a_this_before v_states v_empty v_cut v_rowMany v_taken v_found v_textLong v_at v_stopped v_text v_refused) sz) (ww_X8_type cI cM a_this a_this_all a_this_past a_this_refused a_this_box a_this_row a_this_text a_this_numbers a_this_before v_states v_empty v_cut v_rowMany v_taken v_found o_textLong v_at v_stopped o_text o_refused) r) 0 0 (va_A (ww_X8_type cI cM a_this a_this_all a_this_past a_this_refused a_this_box a_this_row a_this_text a_this_numbers a_this_before v_states v_empty v_cut v_rowMany v_taken v_found v_textLong v_at v_stopped v_text v_refused) sz) := by
  refine g_met (cc := cX8_type) (maxL := 2) (ret := (some .int)) (Qc := fun D A => g_QI D (g_tys cI cM) A (ww_X8_type cI cM a_this a_this_all a_this_past a_this_refused a_this_box a_this_row a_this_text a_this_numbers a_this_before v_states v_empty v_cut v_rowMany v_taken v_found o_textLong v_at v_stopped o_text o_refused) r) (by decide) rfl ?_
  intro p e s m below meth c A C0 hA hK hP hD
  have hl := lv_entry ([.ref a_this, .int x1]) (n := 2) (Nat.le_of_ble_eq_true rfl)
  rw [lg_entry_eq]
  generalize (lg_sl ([.ref a_this, .int x1]) ++ List.replicate (2 - (lg_sl ([.ref a_this, .int x1])).length) Slot.unset).toArray = ls at hl ⊢
  have hl : lv_has ls 2 [(0, .ref a_this), (1, .int x1)] := hl
  exact w_X8_type_B0 C0 hA hK v_textLong v_text v_refused x1 s.heap [] ls hf hP hD va_S.rf (lv_sub hl [0, 1] rfl)
