/-! FloatBoxes$Text.skipBlanks()V -/
abbrev rm_X6_skipBlanks : Room := { frames := 0, cells := 0, slots := 0, locals := 0 }
abbrev ww_X6_skipBlanks (cI cM : ClassId) (a_this a_this_bytes a_this_letter a_this_number : Nat) (v_length : Int32) (v_at : Int32) (v_orders : Int32) (v_bytes : Nat → Int32) : va_W := [(a_this, .inr (4, [.int v_length, .int v_at, .int v_orders, .ref a_this_bytes, .ref a_this_letter, .ref a_this_number])), (a_this_bytes, .inl (cI, 120, .inl v_bytes))]
def f_X6_skipBlanks_C0 (N : Nat) (v_length : Int32) (v_bytes : Nat → Int32) (k0 : Int32 → Option (Int32)) (v_at : Int32) : Option (Int32) :=
  if v_length ≤ v_at then
    some v_at
  else
    o_in v_at 120 (
    if (v_bytes v_at.toNatClampNeg) = 32 then
      k0 (v_at + 1)
    else
      some v_at)
def f_X6_skipBlanks_L0 (N : Nat) (v_length : Int32) (v_bytes : Nat → Int32) : Nat → Int32 → Option (Int32)
  | 0 => fun _ => none
  | n + 1 => f_X6_skipBlanks_C0 N v_length v_bytes (f_X6_skipBlanks_L0 N v_length v_bytes n)
set_option maxHeartbeats 4000000 in
set_option maxRecDepth 100000 in
theorem w_X6_skipBlanks_C0 {p : Program} {l : Launch} {e : Env} {s : State} {m : MethodId} {args : Array Value} {below : List Frame} {meth : Method} {c : Code} {D : va_G} {cI cM : ClassId} {A : Nat → Prop} {a_this a_this_bytes a_this_letter a_this_number : Nat} {v_orders : Int32} {N : Nat} {v_length : Int32} {v_bytes : Nat → Int32} {o_at : Int32} (C0 : g_cx cX6_skipBlanks none 1 RX6 wsX6_skipBlanks p s m args meth c) (hA : ∀ q, s.heap.size ≤ q → A q) (hK : va_K D vwCl (g_tys cI cM) s) (k0 : Int32 → Option (Int32)) (hk0 : ∀ (v_at : Int32) (H : Heap) (locs : List Loc) (ls : Array Slot), k0 v_at = some o_at → va_P D vwCl (ww_X6_skipBlanks cI cM a_this a_this_bytes a_this_letter a_this_number v_length v_at v_orders v_bytes) H → va_D A (ww_X6_skipBlanks cI cM a_this a_this_bytes a_this_letter a_this_number v_length v_at v_orders v_bytes) → va_S A s.heap H locs → lv_has ls 1 [(0, .ref a_this)] → W p l e rm_X6_skipBlanks s m args below meth c H locs 0 0 (MQ below (g_QV D (g_tys cI cM) A (ww_X6_skipBlanks cI cM a_this a_this_bytes a_this_letter a_this_number v_length o_at v_orders v_bytes)) args s 0 0 A) (F0 m 0 ls [])) : ∀ (v_at : Int32) (H : Heap) (locs : List Loc) (ls : Array Slot), f_X6_skipBlanks_C0 N v_length v_bytes k0 v_at = some o_at → va_P D vwCl (ww_X6_skipBlanks cI cM a_this a_this_bytes a_this_letter a_this_number v_length v_at v_orders v_bytes) H → va_D A (ww_X6_skipBlanks cI cM a_this a_this_bytes a_this_letter a_this_number v_length v_at v_orders v_bytes) → va_S A s.heap H locs → lv_has ls 1 [(0, .ref a_this)] → W p l e rm_X6_skipBlanks s m args below meth c H locs 0 0 (MQ below (g_QV D (g_tys cI cM) A (ww_X6_skipBlanks cI cM a_this a_this_bytes a_this_letter a_this_number v_length o_at v_orders v_bytes)) args s 0 0 A) (F0 m 0 ls []) := by
  obtain ⟨hx, hb, hr, hml, hown, hts, hlocks⟩ := id C0
  intro v_at H locs ls hf hP hD hS hl
  unfold f_X6_skipBlanks_C0 at hf
  refine lv_aload_n hx hb dX6_skipBlanks_0 rfl (lv_at hl 0 rfl) ?_
  refine va_get (D := D) (ci := 4) (v := .int v_at) (C := RX6) (T := TX6) (N := 6) hx hb hts (fun _ h => (List.mem_cons_of_mem _ (List.mem_append_right _ h))) hown hK hP 0 rfl rfl 1 (by decide) (hts (.fieldLink RX6 21 "FloatBoxes$Text" "at" "I") (List.mem_cons_of_mem _ (List.mem_append_left _ (List.mem_of_getElem? (i := 0) rfl)))) (fun _ h9 => h9) rfl dX6_skipBlanks_1 ?_
  refine lv_aload_n hx hb dX6_skipBlanks_4 rfl (lv_at hl 0 rfl) ?_
  refine va_get (D := D) (ci := 4) (v := .int v_length) (C := RX6) (T := TX6) (N := 6) hx hb hts (fun _ h => (List.mem_cons_of_mem _ (List.mem_append_right _ h))) hown hK hP 0 rfl rfl 0 (by decide) (hts (.fieldLink RX6 35 "FloatBoxes$Text" "length" "I") (List.mem_cons_of_mem _ (List.mem_append_left _ (List.mem_of_getElem? (i := 1) rfl)))) (fun _ h9 => h9) rfl dX6_skipBlanks_5 ?_
  refine lv_icmp_ge (tgt := 38) hx hb dX6_skipBlanks_8 (by decide) (fun c8 => ?_) (fun c8 => ?_)
  · replace hf := o_t c8 hf
    have q0 := Option.some.inj hf
    subst q0
    exact g_vret hx hb hr hlocks hP hD hK hS dX6_skipBlanks_38
  · replace hf := o_f c8 hf
    refine lv_aload_n hx hb dX6_skipBlanks_11 rfl (lv_at hl 0 rfl) ?_
    refine va_get (D := D) (ci := 4) (v := .ref a_this_bytes) (C := RX6) (T := TX6) (N := 6) hx hb hts (fun _ h => (List.mem_cons_of_mem _ (List.mem_append_right _ h))) hown hK hP 0 rfl rfl 3 (by decide) (hts (.fieldLink RX6 9 "FloatBoxes$Text" "bytes" "[I") (List.mem_cons_of_mem _ (List.mem_append_left _ (List.mem_of_getElem? (i := 2) rfl)))) (fun _ h9 => h9) rfl dX6_skipBlanks_12 ?_
    refine lv_aload_n hx hb dX6_skipBlanks_15 rfl (lv_at hl 0 rfl) ?_
    refine va_get (D := D) (ci := 4) (v := .int v_at) (C := RX6) (T := TX6) (N := 6) hx hb hts (fun _ h => (List.mem_cons_of_mem _ (List.mem_append_right _ h))) hown hK hP 0 rfl rfl 1 (by decide) (hts (.fieldLink RX6 21 "FloatBoxes$Text" "at" "I") (List.mem_cons_of_mem _ (List.mem_append_left _ (List.mem_of_getElem? (i := 0) rfl)))) (fun _ h9 => h9) rfl dX6_skipBlanks_16 ?_
    obtain ⟨h19, hf⟩ := o_in_go hf
    refine va_iald hx hb hK hP 1 0 rfl rfl h19 dX6_skipBlanks_19 ?_
    refine lv_bipush (v := 32) hx hb dX6_skipBlanks_20 (by decide) ?_
    refine lv_icmp_ne (tgt := 38) hx hb dX6_skipBlanks_22 (by decide) (fun c22 => ?_) (fun c22 => ?_)
    · replace hf := o_f c22 hf
      have q0 := Option.some.inj hf
      subst q0
      exact g_vret hx hb hr hlocks hP hD hK hS dX6_skipBlanks_38
    · replace hf := o_t c22 hf
      refine lv_aload_n hx hb dX6_skipBlanks_25 rfl (lv_at hl 0 rfl) ?_
      refine lv_dup hx hb dX6_skipBlanks_26 rfl ?_
      refine va_get (D := D) (ci := 4) (v := .int v_at) (C := RX6) (T := TX6) (N := 6) hx hb hts (fun _ h => (List.mem_cons_of_mem _ (List.mem_append_right _ h))) hown hK hP 0 rfl rfl 1 (by decide) (hts (.fieldLink RX6 21 "FloatBoxes$Text" "at" "I") (List.mem_cons_of_mem _ (List.mem_append_left _ (List.mem_of_getElem? (i := 0) rfl)))) (fun _ h9 => h9) rfl dX6_skipBlanks_27 ?_
      refine lv_iconst (v := 1) hx hb dX6_skipBlanks_30 (by decide) ?_
      refine lv_iadd hx hb dX6_skipBlanks_31 ?_
      refine va_put (D := D) (ci := 4) (v := .int (v_at + 1)) (ty := .int) (C := RX6) (T := TX6) (N := 6) hx hb hts (fun _ h => (List.mem_cons_of_mem _ (List.mem_append_right _ h))) tyX6 tyX6_ok nmX6 hown hK hP hD hS 0 rfl rfl 1 (by decide) (hts (.fieldLink RX6 21 "FloatBoxes$Text" "at" "I") (List.mem_cons_of_mem _ (List.mem_append_left _ (List.mem_of_getElem? (i := 0) rfl)))) (fun _ h9 => h9) rfl (by decide +kernel) rfl rfl (Nat.le_of_ble_eq_true rfl) dX6_skipBlanks_32 (fun H locs hP hD hS => ?_)
      replace hP : va_P D vwCl (ww_X6_skipBlanks cI cM a_this a_this_bytes a_this_letter a_this_number v_length (v_at + 1) v_orders v_bytes) H := hP
      replace hD : va_D A (ww_X6_skipBlanks cI cM a_this a_this_bytes a_this_letter a_this_number v_length (v_at + 1) v_orders v_bytes) := hD
      refine lv_goto (tgt := 0) hx hb dX6_skipBlanks_35 (by decide) ?_
      exact hk0 (v_at + 1) H locs ls hf hP hD hS (lv_sub hl [0] rfl)
set_option maxHeartbeats 4000000 in
set_option maxRecDepth 100000 in
theorem w_X6_skipBlanks_L0 {p : Program} {l : Launch} {e : Env} {s : State} {m : MethodId} {args : Array Value} {below : List Frame} {meth : Method} {c : Code} {D : va_G} {cI cM : ClassId} {A : Nat → Prop} {a_this a_this_bytes a_this_letter a_this_number : Nat} {v_orders : Int32} {N : Nat} {v_length : Int32} {v_bytes : Nat → Int32} {o_at : Int32} (C0 : g_cx cX6_skipBlanks none 1 RX6 wsX6_skipBlanks p s m args meth c) (hA : ∀ q, s.heap.size ≤ q → A q) (hK : va_K D vwCl (g_tys cI cM) s) : ∀ n : Nat, ∀ (v_at : Int32) (H : Heap) (locs : List Loc) (ls : Array Slot), f_X6_skipBlanks_L0 N v_length v_bytes n v_at = some o_at → va_P D vwCl (ww_X6_skipBlanks cI cM a_this a_this_bytes a_this_letter a_this_number v_length v_at v_orders v_bytes) H → va_D A (ww_X6_skipBlanks cI cM a_this a_this_bytes a_this_letter a_this_number v_length v_at v_orders v_bytes) → va_S A s.heap H locs → lv_has ls 1 [(0, .ref a_this)] → W p l e rm_X6_skipBlanks s m args below meth c H locs 0 0 (MQ below (g_QV D (g_tys cI cM) A (ww_X6_skipBlanks cI cM a_this a_this_bytes a_this_letter a_this_number v_length o_at v_orders v_bytes)) args s 0 0 A) (F0 m 0 ls []) := by
  intro n
  induction n with
  | zero =>
    intro v_at H locs ls hf
    exact absurd hf (fun h => nomatch h)
  | succ n ih =>
    intro v_at H locs ls hf
    exact w_X6_skipBlanks_C0 C0 hA hK _ ih v_at H locs ls hf
def f_X6_skipBlanks (N : Nat) (v_length : Int32) (v_bytes : Nat → Int32) (v_at : Int32) : Option (Int32) := f_X6_skipBlanks_L0 N v_length v_bytes N v_at
set_option maxHeartbeats 4000000 in
set_option maxRecDepth 100000 in
theorem c_X6_skipBlanks (l : Launch) (D : va_G) (cI cM : ClassId) (a_this a_this_bytes a_this_letter a_this_number : Nat) (sz : Nat) (v_length : Int32) (v_at : Int32) (v_orders : Int32) (v_bytes : Nat → Int32) {N : Nat} {o_at : Int32} (hf : f_X6_skipBlanks N v_length v_bytes v_at = some o_at) : Met l yX6_skipBlanks wsX6_skipBlanks rm_X6_skipBlanks (g_Pc D (g_tys cI cM) (ww_X6_skipBlanks cI cM a_this a_this_bytes a_this_letter a_this_number v_length v_at v_orders v_bytes) sz [.ref a_this]) (g_QV D (g_tys cI cM) (va_A (ww_X6_skipBlanks cI cM a_this a_this_bytes a_this_letter a_this_number v_length v_at v_orders v_bytes) sz) (ww_X6_skipBlanks cI cM a_this a_this_bytes a_this_letter a_this_number v_length o_at v_orders v_bytes)) 0 0 (va_A (ww_X6_skipBlanks cI cM a_this a_this_bytes a_this_letter a_this_number v_length v_at v_orders v_bytes) sz) := by
  refine g_met (cc := cX6_skipBlanks) (maxL := 1) (ret := none) (Qc := fun D A => g_QV D (g_tys cI cM) A (ww_X6_skipBlanks cI cM a_this a_this_bytes a_this_letter a_this_number v_length o_at v_orders v_bytes)) (by decide) rfl ?_
  intro p e s m below meth c A C0 hA hK hP hD
  have hl := lv_entry ([.ref a_this]) (n := 1) (Nat.le_of_ble_eq_true rfl)
  rw [lg_entry_eq]
  generalize (lg_sl ([.ref a_this]) ++ List.replicate (1 - (lg_sl ([.ref a_this])).length) Slot.unset).toArray = ls at hl ⊢
  have hl : lv_has ls 1 [(0, .ref a_this)] := hl
  exact w_X6_skipBlanks_L0 C0 hA hK N v_at s.heap [] ls hf hP hD va_S.rf (lv_sub hl [0] rfl)
/-! FloatBoxes$Text.peek()I -/
abbrev rm_X6_peek : Room := { frames := 0, cells := 0, slots := 0, locals := 0 }
abbrev ww_X6_peek (cI cM : ClassId) (a_this a_this_bytes a_this_letter a_this_number : Nat) (v_length : Int32) (v_at : Int32) (v_orders : Int32) (v_bytes : Nat → Int32) : va_W := [(a_this, .inr (4, [.int v_length, .int v_at, .int v_orders, .ref a_this_bytes, .ref a_this_letter, .ref a_this_number])), (a_this_bytes, .inl (cI, 120, .inl v_bytes))]
def f_X6_peek (v_length : Int32) (v_at : Int32) (v_bytes : Nat → Int32) : Option (Int32) :=
  if v_length ≤ v_at then
    some ((-1))
  else
    o_in v_at 120 (
    some (v_bytes v_at.toNatClampNeg))
set_option maxHeartbeats 4000000 in
set_option maxRecDepth 100000 in
theorem w_X6_peek_B0 {p : Program} {l : Launch} {e : Env} {s : State} {m : MethodId} {args : Array Value} {below : List Frame} {meth : Method} {c : Code} {D : va_G} {cI cM : ClassId} {A : Nat → Prop} {a_this a_this_bytes a_this_letter a_this_number : Nat} {v_orders : Int32} {v_length : Int32} {v_at : Int32} {v_bytes : Nat → Int32} {r : Int32} (C0 : g_cx cX6_peek (some .int) 1 RX6 wsX6_peek p s m args meth c) (hA : ∀ q, s.heap.size ≤ q → A q) (hK : va_K D vwCl (g_tys cI cM) s) : ∀ (H : Heap) (locs : List Loc) (ls : Array Slot), f_X6_peek v_length v_at v_bytes = some r → va_P D vwCl (ww_X6_peek cI cM a_this a_this_bytes a_this_letter a_this_number v_length v_at v_orders v_bytes) H → va_D A (ww_X6_peek cI cM a_this a_this_bytes a_this_letter a_this_number v_length v_at v_orders v_bytes) → va_S A s.heap H locs → lv_has ls 1 [(0, .ref a_this)] → W p l e rm_X6_peek s m args below meth c H locs 0 0 (MQ below (g_QI D (g_tys cI cM) A (ww_X6_peek cI cM a_this a_this_bytes a_this_letter a_this_number v_length v_at v_orders v_bytes) r) args s 0 0 A) (F0 m 0 ls []) := by
  obtain ⟨hx, hb, hr, hml, hown, hts, hlocks⟩ := id C0
  intro H locs ls hf hP hD hS hl
  unfold f_X6_peek at hf
  refine lv_aload_n hx hb dX6_peek_0 rfl (lv_at hl 0 rfl) ?_
  refine va_get (D := D) (ci := 4) (v := .int v_at) (C := RX6) (T := TX6) (N := 6) hx hb hts (fun _ h => (List.mem_cons_of_mem _ (List.mem_append_right _ h))) hown hK hP 0 rfl rfl 1 (by decide) (hts (.fieldLink RX6 21 "FloatBoxes$Text" "at" "I") (List.mem_cons_of_mem _ (List.mem_append_left _ (List.mem_of_getElem? (i := 0) rfl)))) (fun _ h9 => h9) rfl dX6_peek_1 ?_
  refine lv_aload_n hx hb dX6_peek_4 rfl (lv_at hl 0 rfl) ?_
  refine va_get (D := D) (ci := 4) (v := .int v_length) (C := RX6) (T := TX6) (N := 6) hx hb hts (fun _ h => (List.mem_cons_of_mem _ (List.mem_append_right _ h))) hown hK hP 0 rfl rfl 0 (by decide) (hts (.fieldLink RX6 35 "FloatBoxes$Text" "length" "I") (List.mem_cons_of_mem _ (List.mem_append_left _ (List.mem_of_getElem? (i := 1) rfl)))) (fun _ h9 => h9) rfl dX6_peek_5 ?_
  refine lv_icmp_ge (tgt := 23) hx hb dX6_peek_8 (by decide) (fun c8 => ?_) (fun c8 => ?_)
  · replace hf := o_t c8 hf
    refine lv_iconst (v := (-1)) hx hb dX6_peek_23 (by decide) ?_
    have q0 := Option.some.inj hf
    subst q0
    exact g_iret hx hb hr hlocks hP hD hK hS dX6_peek_24
  · replace hf := o_f c8 hf
    refine lv_aload_n hx hb dX6_peek_11 rfl (lv_at hl 0 rfl) ?_
    refine va_get (D := D) (ci := 4) (v := .ref a_this_bytes) (C := RX6) (T := TX6) (N := 6) hx hb hts (fun _ h => (List.mem_cons_of_mem _ (List.mem_append_right _ h))) hown hK hP 0 rfl rfl 3 (by decide) (hts (.fieldLink RX6 9 "FloatBoxes$Text" "bytes" "[I") (List.mem_cons_of_mem _ (List.mem_append_left _ (List.mem_of_getElem? (i := 2) rfl)))) (fun _ h9 => h9) rfl dX6_peek_12 ?_
    refine lv_aload_n hx hb dX6_peek_15 rfl (lv_at hl 0 rfl) ?_
    refine va_get (D := D) (ci := 4) (v := .int v_at) (C := RX6) (T := TX6) (N := 6) hx hb hts (fun _ h => (List.mem_cons_of_mem _ (List.mem_append_right _ h))) hown hK hP 0 rfl rfl 1 (by decide) (hts (.fieldLink RX6 21 "FloatBoxes$Text" "at" "I") (List.mem_cons_of_mem _ (List.mem_append_left _ (List.mem_of_getElem? (i := 0) rfl)))) (fun _ h9 => h9) rfl dX6_peek_16 ?_
    obtain ⟨h19, hf⟩ := o_in_go hf
    refine va_iald hx hb hK hP 1 0 rfl rfl h19 dX6_peek_19 ?_
    refine lv_goto (tgt := 24) hx hb dX6_peek_20 (by decide) ?_
    have q0 := Option.some.inj hf
    subst q0
    exact g_iret hx hb hr hlocks hP hD hK hS dX6_peek_24
set_option maxHeartbeats 4000000 in
set_option maxRecDepth 100000 in
theorem c_X6_peek (l : Launch) (D : va_G) (cI cM : ClassId) (a_this a_this_bytes a_this_letter a_this_number : Nat) (sz : Nat) (v_length : Int32) (v_at : Int32) (v_orders : Int32) (v_bytes : Nat → Int32) {r : Int32} (hf : f_X6_peek v_length v_at v_bytes = some r) : Met l yX6_peek wsX6_peek rm_X6_peek (g_Pc D (g_tys cI cM) (ww_X6_peek cI cM a_this a_this_bytes a_this_letter a_this_number v_length v_at v_orders v_bytes) sz [.ref a_this]) (g_QI D (g_tys cI cM) (va_A (ww_X6_peek cI cM a_this a_this_bytes a_this_letter a_this_number v_length v_at v_orders v_bytes) sz) (ww_X6_peek cI cM a_this a_this_bytes a_this_letter a_this_number v_length v_at v_orders v_bytes) r) 0 0 (va_A (ww_X6_peek cI cM a_this a_this_bytes a_this_letter a_this_number v_length v_at v_orders v_bytes) sz) := by
  refine g_met (cc := cX6_peek) (maxL := 1) (ret := (some .int)) (Qc := fun D A => g_QI D (g_tys cI cM) A (ww_X6_peek cI cM a_this a_this_bytes a_this_letter a_this_number v_length v_at v_orders v_bytes) r) (by decide) rfl ?_
  intro p e s m below meth c A C0 hA hK hP hD
  have hl := lv_entry ([.ref a_this]) (n := 1) (Nat.le_of_ble_eq_true rfl)
  rw [lg_entry_eq]
  generalize (lg_sl ([.ref a_this]) ++ List.replicate (1 - (lg_sl ([.ref a_this])).length) Slot.unset).toArray = ls at hl ⊢
  have hl : lv_has ls 1 [(0, .ref a_this)] := hl
  exact w_X6_peek_B0 C0 hA hK s.heap [] ls hf hP hD va_S.rf (lv_sub hl [0] rfl)
/-! FloatBoxes$Text.numbersOf(I)I -/
abbrev rm_X6_numbersOf : Room := { frames := 0, cells := 0, slots := 0, locals := 0 }
def f_X6_numbersOf  (x0 : Int32) : Option (Int32) :=
  if x0 = 99 then
    some 0
  else
  if x0 = 107 then
    some 4
  else
  if x0 = 117 then
    some 2
  else
  if x0 = 120 then
    some 1
  else
  some ((-1))
set_option maxHeartbeats 4000000 in
set_option maxRecDepth 100000 in
theorem w_X6_numbersOf_B0 {p : Program} {l : Launch} {e : Env} {s : State} {m : MethodId} {args : Array Value} {below : List Frame} {meth : Method} {c : Code} {r : Int32} (C0 : g_cx cX6_numbersOf (some .int) 1 RX6 wsX6_numbersOf p s m args meth c) : ∀ (x0 : Int32) (ls : Array Slot), f_X6_numbersOf x0 = some r → lv_has ls 1 [(0, .int x0)] → W p l e rm_X6_numbersOf s m args below meth c s.heap [] 0 0 (MQ below (g_SI r) args s 0 0 (fun _ => False)) (F0 m 0 ls []) := by
  obtain ⟨hx, hb, hr, hml, hown, hts, hlocks⟩ := id C0
  intro x0 ls hf hl
  unfold f_X6_numbersOf at hf
  refine lv_iload_n hx hb dX6_numbersOf_0 rfl (lv_at hl 0 rfl) ?_
  by_cases c1_99 : x0 = 99
  · replace hf := o_t c1_99 hf
    refine lv_lookup (off := 47) (tgt := 48) hx hb dX6_numbersOf_1 (by decide) (by rw [o_sw (a := 99) rfl c1_99]; decide) (by decide) ?_
    refine lv_iconst (v := 0) hx hb dX6_numbersOf_48 (by decide) ?_
    have q0 := Option.some.inj hf
    subst q0
    exact g_siret hx hb hr hlocks dX6_numbersOf_49
  replace hf := o_f c1_99 hf
  by_cases c1_107 : x0 = 107
  · replace hf := o_t c1_107 hf
    refine lv_lookup (off := 45) (tgt := 46) hx hb dX6_numbersOf_1 (by decide) (by rw [o_sw (a := 107) rfl c1_107]; decide) (by decide) ?_
    refine lv_iconst (v := 4) hx hb dX6_numbersOf_46 (by decide) ?_
    have q0 := Option.some.inj hf
    subst q0
    exact g_siret hx hb hr hlocks dX6_numbersOf_47
  replace hf := o_f c1_107 hf
  by_cases c1_117 : x0 = 117
  · replace hf := o_t c1_117 hf
    refine lv_lookup (off := 43) (tgt := 44) hx hb dX6_numbersOf_1 (by decide) (by rw [o_sw (a := 117) rfl c1_117]; decide) (by decide) ?_
    refine lv_iconst (v := 2) hx hb dX6_numbersOf_44 (by decide) ?_
    have q0 := Option.some.inj hf
    subst q0
    exact g_siret hx hb hr hlocks dX6_numbersOf_45
  replace hf := o_f c1_117 hf
  by_cases c1_120 : x0 = 120
  · replace hf := o_t c1_120 hf
    refine lv_lookup (off := 49) (tgt := 50) hx hb dX6_numbersOf_1 (by decide) (by rw [o_sw (a := 120) rfl c1_120]; decide) (by decide) ?_
    refine lv_iconst (v := 1) hx hb dX6_numbersOf_50 (by decide) ?_
    have q0 := Option.some.inj hf
    subst q0
    exact g_siret hx hb hr hlocks dX6_numbersOf_51
  replace hf := o_f c1_120 hf
  refine lv_lookup (off := 51) (tgt := 52) hx hb dX6_numbersOf_1 (by decide) (by show Op.lookupswitch.offset [(99, 47), (107, 45), (117, 43), (120, 49)] _ _ = _; rw [lv_osw (a := 99) c1_99 rfl, lv_osw (a := 107) c1_107 rfl, lv_osw (a := 117) c1_117 rfl, lv_osw (a := 120) c1_120 rfl]; rfl) (by decide) ?_
  refine lv_iconst (v := (-1)) hx hb dX6_numbersOf_52 (by decide) ?_
  have q0 := Option.some.inj hf
  subst q0
  exact g_siret hx hb hr hlocks dX6_numbersOf_53
set_option maxHeartbeats 4000000 in
set_option maxRecDepth 100000 in
theorem c_X6_numbersOf (l : Launch) {x0 : Int32} {r : Int32} (hf : f_X6_numbersOf x0 = some r) : Met l yX6_numbersOf wsX6_numbersOf rm_X6_numbersOf (g_PS [.int x0]) (g_SI r) 0 0 (fun _ => False) := by
  refine g_metS (cc := cX6_numbersOf) (maxL := 1) (ret := (some .int)) (by decide) rfl ?_
  intro p e s m below meth c C0
  have hl := lv_entry ([.int x0]) (n := 1) (Nat.le_of_ble_eq_true rfl)
  rw [lg_entry_eq]
  generalize (lg_sl ([.int x0]) ++ List.replicate (1 - (lg_sl ([.int x0])).length) Slot.unset).toArray = ls at hl ⊢
  have hl : lv_has ls 1 [(0, .int x0)] := hl
  exact w_X6_numbersOf_B0 C0 x0 ls hf (lv_sub hl [0] rfl)
/-! FloatBoxes$Text.isFigure(I)Z -/
abbrev rm_X6_isFigure : Room := { frames := 0, cells := 0, slots := 0, locals := 0 }
def f_X6_isFigure  (x0 : Int32) : Option (Int32) :=
  if x0 < 48 then
    some 0
  else
    if 57 < x0 then
      some 0
    else
      some 1
set_option maxHeartbeats 4000000 in
set_option maxRecDepth 100000 in
theorem w_X6_isFigure_B0 {p : Program} {l : Launch} {e : Env} {s : State} {m : MethodId} {args : Array Value} {below : List Frame} {meth : Method} {c : Code} {r : Int32} (C0 : g_cx cX6_isFigure (some .boolean) 1 RX6 wsX6_isFigure p s m args meth c) : ∀ (x0 : Int32) (ls : Array Slot), f_X6_isFigure x0 = some r → lv_has ls 1 [(0, .int x0)] → W p l e rm_X6_isFigure s m args below meth c s.heap [] 0 0 (MQ below (g_SI r) args s 0 0 (fun _ => False)) (F0 m 0 ls []) := by
  obtain ⟨hx, hb, hr, hml, hown, hts, hlocks⟩ := id C0
  intro x0 ls hf hl
  unfold f_X6_isFigure at hf
  refine lv_iload_n hx hb dX6_isFigure_0 rfl (lv_at hl 0 rfl) ?_
  refine lv_bipush (v := 48) hx hb dX6_isFigure_1 (by decide) ?_
  refine lv_icmp_lt (tgt := 16) hx hb dX6_isFigure_3 (by decide) (fun c3 => ?_) (fun c3 => ?_)
  · replace hf := o_t c3 hf
    refine lv_iconst (v := 0) hx hb dX6_isFigure_16 (by decide) ?_
    have q0 := Option.some.inj hf
    subst q0
    exact g_szret hx hb hr hlocks (by decide) dX6_isFigure_17
  · replace hf := o_f c3 hf
    refine lv_iload_n hx hb dX6_isFigure_6 rfl (lv_at hl 0 rfl) ?_
    refine lv_bipush (v := 57) hx hb dX6_isFigure_7 (by decide) ?_
    refine lv_icmp_gt (tgt := 16) hx hb dX6_isFigure_9 (by decide) (fun c9 => ?_) (fun c9 => ?_)
    · replace hf := o_t c9 hf
      refine lv_iconst (v := 0) hx hb dX6_isFigure_16 (by decide) ?_
      have q0 := Option.some.inj hf
      subst q0
      exact g_szret hx hb hr hlocks (by decide) dX6_isFigure_17
    · replace hf := o_f c9 hf
      refine lv_iconst (v := 1) hx hb dX6_isFigure_12 (by decide) ?_
      refine lv_goto (tgt := 17) hx hb dX6_isFigure_13 (by decide) ?_
      have q0 := Option.some.inj hf
      subst q0
      exact g_szret hx hb hr hlocks (by decide) dX6_isFigure_17
set_option maxHeartbeats 4000000 in
set_option maxRecDepth 100000 in
theorem c_X6_isFigure (l : Launch) {x0 : Int32} {r : Int32} (hf : f_X6_isFigure x0 = some r) : Met l yX6_isFigure wsX6_isFigure rm_X6_isFigure (g_PS [.int x0]) (g_SI r) 0 0 (fun _ => False) := by
  refine g_metS (cc := cX6_isFigure) (maxL := 1) (ret := (some .boolean)) (by decide) rfl ?_
  intro p e s m below meth c C0
  have hl := lv_entry ([.int x0]) (n := 1) (Nat.le_of_ble_eq_true rfl)
  rw [lg_entry_eq]
  generalize (lg_sl ([.int x0]) ++ List.replicate (1 - (lg_sl ([.int x0])).length) Slot.unset).toArray = ls at hl ⊢
  have hl : lv_has ls 1 [(0, .int x0)] := hl
  exact w_X6_isFigure_B0 C0 x0 ls hf (lv_sub hl [0] rfl)
/-! FloatBoxes$Text.readNumber(IZ)Z -/
abbrev rm_X6_readNumber : Room := { frames := 1, cells := 0, slots := 0, locals := 20 }
abbrev ww_X6_readNumber (cI cM : ClassId) (a_this a_this_bytes a_this_letter a_this_number : Nat) (v_length : Int32) (v_at : Int32) (v_orders : Int32) (v_number : Nat → Int32) (v_bytes : Nat → Int32) : va_W := [(a_this, .inr (4, [.int v_length, .int v_at, .int v_orders, .ref a_this_bytes, .ref a_this_letter, .ref a_this_number])), (a_this_number, .inl (cI, 240, .inl v_number)), (a_this_bytes, .inl (cI, 120, .inl v_bytes))]
def f_X6_readNumber_B104 (N : Nat) (v_length : Int32) (v_bytes : Nat → Int32) (v_at : Int32) (v_number : Nat → Int32) (x5 : Int32) (z1 : Int32) (z2 : Int32) : Option (Int32 × Int32 × (Nat → Int32)) :=
  o_in z1 240 (
  if x5 ≤ 0 then
    some (0, v_at, upd v_number z1.toNatClampNeg z2)
  else
    o_b1 (f_X6_peek v_length v_at v_bytes) (fun (r111 : Int32) =>
    o_b1 (f_X6_isFigure r111) (fun (r114 : Int32) =>
    if r114 = 0 then
      some (1, v_at, upd v_number z1.toNatClampNeg z2)
    else
      some (0, v_at, upd v_number z1.toNatClampNeg z2))))
set_option maxHeartbeats 4000000 in
set_option maxRecDepth 100000 in
theorem w_X6_readNumber_B104 {p : Program} {l : Launch} {e : Env} {s : State} {m : MethodId} {args : Array Value} {below : List Frame} {meth : Method} {c : Code} {D : va_G} {cI cM : ClassId} {A : Nat → Prop} {a_this a_this_bytes a_this_letter a_this_number : Nat} {v_orders : Int32} {N : Nat} {v_length : Int32} {v_bytes : Nat → Int32} {r : Int32} {o_at : Int32} {o_number : Nat → Int32} (C0 : g_cx cX6_readNumber (some .boolean) 6 RX6 wsX6_readNumber p s m args meth c) (hA : ∀ q, s.heap.size ≤ q → A q) (hK : va_K D vwCl (g_tys cI cM) s) : ∀ (v_at : Int32) (v_number : Nat → Int32) (x5 : Int32) (z1 : Int32) (z2 : Int32) (H : Heap) (locs : List Loc) (ls : Array Slot), f_X6_readNumber_B104 N v_length v_bytes v_at v_number x5 z1 z2 = some (r, o_at, o_number) → va_P D vwCl (ww_X6_readNumber cI cM a_this a_this_bytes a_this_letter a_this_number v_length v_at v_orders v_number v_bytes) H → va_D A (ww_X6_readNumber cI cM a_this a_this_bytes a_this_letter a_this_number v_length v_at v_orders v_number v_bytes) → va_S A s.heap H locs → lv_has ls 6 [(0, .ref a_this), (5, .int x5)] → W p l e rm_X6_readNumber s m args below meth c H locs 0 0 (MQ below (g_QI D (g_tys cI cM) A (ww_X6_readNumber cI cM a_this a_this_bytes a_this_letter a_this_number v_length o_at v_orders o_number v_bytes) r) args s 0 0 A) (F0 m 104 ls [.int z2, .int z1, .ref a_this_number]) := by
  obtain ⟨hx, hb, hr, hml, hown, hts, hlocks⟩ := id C0
  intro v_at v_number x5 z1 z2 H locs ls hf hP hD hS hl
  unfold f_X6_readNumber_B104 at hf
  obtain ⟨h104, hf⟩ := o_in_go hf
  refine va_iast hx hb hK hP hD hS 1 0 rfl rfl h104 dX6_readNumber_104 (fun H locs hP hD hS => ?_)
  replace hP : va_P D vwCl (ww_X6_readNumber cI cM a_this a_this_bytes a_this_letter a_this_number v_length v_at v_orders (upd v_number z1.toNatClampNeg z2) v_bytes) H := hP
  replace hD : va_D A (ww_X6_readNumber cI cM a_this a_this_bytes a_this_letter a_this_number v_length v_at v_orders (upd v_number z1.toNatClampNeg z2) v_bytes) := hD
  refine lv_iload hx hb dX6_readNumber_105 (lv_at hl 1 rfl) ?_
  refine lv_if_le (tgt := 124) hx hb dX6_readNumber_107 (by decide) (fun c107 => ?_) (fun c107 => ?_)
  · replace hf := o_t c107 hf
    refine lv_iconst (v := 0) hx hb dX6_readNumber_124 (by decide) ?_
    obtain ⟨q0, y0⟩ := o_rp hf
    obtain ⟨q1, y1⟩ := o_rp y0
    have q2 := Option.some.inj y1
    subst q0 q1 q2
    exact g_zret hx hb hr hlocks (by decide) hP hD hK hS dX6_readNumber_125
  · replace hf := o_f c107 hf
    refine lv_aload_n hx hb dX6_readNumber_110 rfl (lv_at hl 0 rfl) ?_
    obtain ⟨r111, hg111, hf⟩ := o_b1_go hf
    refine g_callVi (wn := (ww_X6_readNumber cI cM a_this a_this_bytes a_this_letter a_this_number v_length v_at v_orders (upd v_number z1.toNatClampNeg z2) v_bytes)) (rest := []) ⟨hx, hb, hml, hown, hts⟩ (c_X6_peek l D cI cM a_this a_this_bytes a_this_letter a_this_number H.size v_length v_at v_orders v_bytes hg111) (cwV 0 hts gX6_readNumber_X6_peek rfl rfl rfl (by decide +kernel) ⟨Nat.le_of_ble_eq_true rfl, Nat.le_of_ble_eq_true rfl⟩) hK hP hD hS hA [0, 2] [1] [1, 0, 2] rfl rfl rfl rfl rfl rfl (by decide) rfl rfl rfl hl.1 rfl (Nat.le_of_ble_eq_true rfl) dX6_readNumber_111 (fun H locs hP hD hS => ?_)
    obtain ⟨r114, hg114, hf⟩ := o_b1_go hf
    refine g_callSi (rest := []) ⟨hx, hb, hml, hown, hts⟩ (c_X6_isFigure l hg114) (va_cwS 1 hts gX6_readNumber_X6_isFigure rfl rfl rfl (by decide +kernel) ⟨Nat.le_of_ble_eq_true rfl, Nat.le_of_ble_eq_true rfl⟩) rfl hl.1 rfl (Nat.le_of_ble_eq_true rfl) dX6_readNumber_114 ?_
    refine lv_if_ne (tgt := 124) hx hb dX6_readNumber_117 (by decide) (fun c117 => ?_) (fun c117 => ?_)
    · replace hf := o_f c117 hf
      refine lv_iconst (v := 0) hx hb dX6_readNumber_124 (by decide) ?_
      obtain ⟨q0, y0⟩ := o_rp hf
      obtain ⟨q1, y1⟩ := o_rp y0
      have q2 := Option.some.inj y1
      subst q0 q1 q2
      exact g_zret hx hb hr hlocks (by decide) hP hD hK hS dX6_readNumber_125
    · replace hf := o_t c117 hf
      refine lv_iconst (v := 1) hx hb dX6_readNumber_120 (by decide) ?_
      refine lv_goto (tgt := 125) hx hb dX6_readNumber_121 (by decide) ?_
      obtain ⟨q0, y0⟩ := o_rp hf
      obtain ⟨q1, y1⟩ := o_rp y0
      have q2 := Option.some.inj y1
      subst q0 q1 q2
      exact g_zret hx hb hr hlocks (by decide) hP hD hK hS dX6_readNumber_125
def f_X6_readNumber_B87 (N : Nat) (v_length : Int32) (v_bytes : Nat → Int32) (v_at : Int32) (v_number : Nat → Int32) (x1 : Int32) (x3 : Int32) (x4 : Int32) (x5 : Int32) : Option (Int32 × Int32 × (Nat → Int32)) :=
  if x3 = 0 then
    f_X6_readNumber_B104 N v_length v_bytes v_at v_number x5 x1 x4
  else
    f_X6_readNumber_B104 N v_length v_bytes v_at v_number x5 x1 (-x4)
set_option maxHeartbeats 4000000 in
set_option maxRecDepth 100000 in
theorem w_X6_readNumber_B87 {p : Program} {l : Launch} {e : Env} {s : State} {m : MethodId} {args : Array Value} {below : List Frame} {meth : Method} {c : Code} {D : va_G} {cI cM : ClassId} {A : Nat → Prop} {a_this a_this_bytes a_this_letter a_this_number : Nat} {v_orders : Int32} {N : Nat} {v_length : Int32} {v_bytes : Nat → Int32} {r : Int32} {o_at : Int32} {o_number : Nat → Int32} (C0 : g_cx cX6_readNumber (some .boolean) 6 RX6 wsX6_readNumber p s m args meth c) (hA : ∀ q, s.heap.size ≤ q → A q) (hK : va_K D vwCl (g_tys cI cM) s) : ∀ (v_at : Int32) (v_number : Nat → Int32) (x1 : Int32) (x3 : Int32) (x4 : Int32) (x5 : Int32) (H : Heap) (locs : List Loc) (ls : Array Slot), f_X6_readNumber_B87 N v_length v_bytes v_at v_number x1 x3 x4 x5 = some (r, o_at, o_number) → va_P D vwCl (ww_X6_readNumber cI cM a_this a_this_bytes a_this_letter a_this_number v_length v_at v_orders v_number v_bytes) H → va_D A (ww_X6_readNumber cI cM a_this a_this_bytes a_this_letter a_this_number v_length v_at v_orders v_number v_bytes) → va_S A s.heap H locs → lv_has ls 6 [(0, .ref a_this), (1, .int x1), (3, .int x3), (4, .int x4), (5, .int x5)] → W p l e rm_X6_readNumber s m args below meth c H locs 0 0 (MQ below (g_QI D (g_tys cI cM) A (ww_X6_readNumber cI cM a_this a_this_bytes a_this_letter a_this_number v_length o_at v_orders o_number v_bytes) r) args s 0 0 A) (F0 m 87 ls []) := by
  obtain ⟨hx, hb, hr, hml, hown, hts, hlocks⟩ := id C0
  intro v_at v_number x1 x3 x4 x5 H locs ls hf hP hD hS hl
  unfold f_X6_readNumber_B87 at hf
  refine lv_aload_n hx hb dX6_readNumber_87 rfl (lv_at hl 0 rfl) ?_
  refine va_get (D := D) (ci := 4) (v := .ref a_this_number) (C := RX6) (T := TX6) (N := 6) hx hb hts (fun _ h => (List.mem_cons_of_mem _ (List.mem_append_right _ h))) hown hK hP 0 rfl rfl 5 (by decide) (hts (.fieldLink RX6 18 "FloatBoxes$Text" "number" "[I") (List.mem_cons_of_mem _ (List.mem_append_left _ (List.mem_of_getElem? (i := 1) rfl)))) (fun _ h9 => h9) rfl dX6_readNumber_88 ?_
  refine lv_iload_n hx hb dX6_readNumber_91 rfl (lv_at hl 1 rfl) ?_
  refine lv_iload_n hx hb dX6_readNumber_92 rfl (lv_at hl 2 rfl) ?_
  refine lv_if_eq (tgt := 102) hx hb dX6_readNumber_93 (by decide) (fun c93 => ?_) (fun c93 => ?_)
  · replace hf := o_t c93 hf
    refine lv_iload hx hb dX6_readNumber_102 (lv_at hl 3 rfl) ?_
    exact w_X6_readNumber_B104 C0 hA hK v_at v_number x5 x1 x4 H locs ls hf hP hD hS (lv_sub hl [0, 4] rfl)
  · replace hf := o_f c93 hf
    refine lv_iload hx hb dX6_readNumber_96 (lv_at hl 3 rfl) ?_
    refine lv_ineg hx hb dX6_readNumber_98 ?_
    refine lv_goto (tgt := 104) hx hb dX6_readNumber_99 (by decide) ?_
    exact w_X6_readNumber_B104 C0 hA hK v_at v_number x5 x1 (-x4) H locs ls hf hP hD hS (lv_sub hl [0, 4] rfl)
def f_X6_readNumber_C39 (N : Nat) (v_length : Int32) (v_bytes : Nat → Int32) (k39 : Int32 → (Nat → Int32) → Int32 → Int32 → Int32 → Int32 → Option (Int32 × Int32 × (Nat → Int32))) (v_at : Int32) (v_number : Nat → Int32) (x1 : Int32) (x3 : Int32) (x4 : Int32) (x5 : Int32) : Option (Int32 × Int32 × (Nat → Int32)) :=
  if 9 ≤ x5 then
    f_X6_readNumber_B87 N v_length v_bytes v_at v_number x1 x3 x4 x5
  else
    o_b1 (f_X6_peek v_length v_at v_bytes) (fun (r47 : Int32) =>
    o_b1 (f_X6_isFigure r47) (fun (r50 : Int32) =>
    if r50 = 0 then
      f_X6_readNumber_B87 N v_length v_bytes v_at v_number x1 x3 x4 x5
    else
      o_b1 (f_X6_peek v_length v_at v_bytes) (fun (r62 : Int32) =>
      o_nm (((x4 * 10) + r62) - 48) (fun (t69 : Int32) =>
      k39 (v_at + 1) v_number x1 x3 t69 (x5 + 1)))))
def f_X6_readNumber_L39 (N : Nat) (v_length : Int32) (v_bytes : Nat → Int32) : Nat → Int32 → (Nat → Int32) → Int32 → Int32 → Int32 → Int32 → Option (Int32 × Int32 × (Nat → Int32))
  | 0 => fun _ _ _ _ _ _ => none
  | n + 1 => f_X6_readNumber_C39 N v_length v_bytes (f_X6_readNumber_L39 N v_length v_bytes n)
set_option maxHeartbeats 4000000 in
set_option maxRecDepth 100000 in
theorem w_X6_readNumber_C39 {p : Program} {l : Launch} {e : Env} {s : State} {m : MethodId} {args : Array Value} {below : List Frame} {meth : Method} {c : Code} {D : va_G} {cI cM : ClassId} {A : Nat → Prop} {a_this a_this_bytes a_this_letter a_this_number : Nat} {v_orders : Int32} {N : Nat} {v_length : Int32} {v_bytes : Nat → Int32} {r : Int32} {o_at : Int32} {o_number : Nat → Int32} (C0 : g_cx cX6_readNumber (some .boolean) 6 RX6 wsX6_readNumber p s m args meth c) (hA : ∀ q, s.heap.size ≤ q → A q) (hK : va_K D vwCl (g_tys cI cM) s) (k39 : Int32 → (Nat → Int32) → Int32 → Int32 → Int32 → Int32 → Option (Int32 × Int32 × (Nat → Int32))) (hk39 : ∀ (v_at : Int32) (v_number : Nat → Int32) (x1 : Int32) (x3 : Int32) (x4 : Int32) (x5 : Int32) (H : Heap) (locs : List Loc) (ls : Array Slot), k39 v_at v_number x1 x3 x4 x5 = some (r, o_at, o_number) → va_P D vwCl (ww_X6_readNumber cI cM a_this a_this_bytes a_this_letter a_this_number v_length v_at v_orders v_number v_bytes) H → va_D A (ww_X6_readNumber cI cM a_this a_this_bytes a_this_letter a_this_number v_length v_at v_orders v_number v_bytes) → va_S A s.heap H locs → lv_has ls 6 [(0, .ref a_this), (1, .int x1), (3, .int x3), (4, .int x4), (5, .int x5)] → W p l e rm_X6_readNumber s m args below meth c H locs 0 0 (MQ below (g_QI D (g_tys cI cM) A (ww_X6_readNumber cI cM a_this a_this_bytes a_this_letter a_this_number v_length o_at v_orders o_number v_bytes) r) args s 0 0 A) (F0 m 39 ls [])) : ∀ (v_at : Int32) (v_number : Nat → Int32) (x1 : Int32) (x3 : Int32) (x4 : Int32) (x5 : Int32) (H : Heap) (locs : List Loc) (ls : Array Slot), f_X6_readNumber_C39 N v_length v_bytes k39 v_at v_number x1 x3 x4 x5 = some (r, o_at, o_number) → va_P D vwCl (ww_X6_readNumber cI cM a_this a_this_bytes a_this_letter a_this_number v_length v_at v_orders v_number v_bytes) H → va_D A (ww_X6_readNumber cI cM a_this a_this_bytes a_this_letter a_this_number v_length v_at v_orders v_number v_bytes) → va_S A s.heap H locs → lv_has ls 6 [(0, .ref a_this), (1, .int x1), (3, .int x3), (4, .int x4), (5, .int x5)] → W p l e rm_X6_readNumber s m args below meth c H locs 0 0 (MQ below (g_QI D (g_tys cI cM) A (ww_X6_readNumber cI cM a_this a_this_bytes a_this_letter a_this_number v_length o_at v_orders o_number v_bytes) r) args s 0 0 A) (F0 m 39 ls []) := by
  obtain ⟨hx, hb, hr, hml, hown, hts, hlocks⟩ := id C0
  intro v_at v_number x1 x3 x4 x5 H locs ls hf hP hD hS hl
  unfold f_X6_readNumber_C39 at hf
  refine lv_iload hx hb dX6_readNumber_39 (lv_at hl 4 rfl) ?_
  refine lv_bipush (v := 9) hx hb dX6_readNumber_41 (by decide) ?_
  refine lv_icmp_ge (tgt := 87) hx hb dX6_readNumber_43 (by decide) (fun c43 => ?_) (fun c43 => ?_)
  · replace hf := o_t c43 hf
    exact w_X6_readNumber_B87 C0 hA hK v_at v_number x1 x3 x4 x5 H locs ls hf hP hD hS (lv_sub hl [0, 1, 2, 3, 4] rfl)
  · replace hf := o_f c43 hf
    refine lv_aload_n hx hb dX6_readNumber_46 rfl (lv_at hl 0 rfl) ?_
    obtain ⟨r47, hg47, hf⟩ := o_b1_go hf
    refine g_callVi (wn := (ww_X6_readNumber cI cM a_this a_this_bytes a_this_letter a_this_number v_length v_at v_orders v_number v_bytes)) (rest := []) ⟨hx, hb, hml, hown, hts⟩ (c_X6_peek l D cI cM a_this a_this_bytes a_this_letter a_this_number H.size v_length v_at v_orders v_bytes hg47) (cwV 0 hts gX6_readNumber_X6_peek rfl rfl rfl (by decide +kernel) ⟨Nat.le_of_ble_eq_true rfl, Nat.le_of_ble_eq_true rfl⟩) hK hP hD hS hA [0, 2] [1] [1, 0, 2] rfl rfl rfl rfl rfl rfl (by decide) rfl rfl rfl hl.1 rfl (Nat.le_of_ble_eq_true rfl) dX6_readNumber_47 (fun H locs hP hD hS => ?_)
    obtain ⟨r50, hg50, hf⟩ := o_b1_go hf
    refine g_callSi (rest := []) ⟨hx, hb, hml, hown, hts⟩ (c_X6_isFigure l hg50) (va_cwS 1 hts gX6_readNumber_X6_isFigure rfl rfl rfl (by decide +kernel) ⟨Nat.le_of_ble_eq_true rfl, Nat.le_of_ble_eq_true rfl⟩) rfl hl.1 rfl (Nat.le_of_ble_eq_true rfl) dX6_readNumber_50 ?_
    refine lv_if_eq (tgt := 87) hx hb dX6_readNumber_53 (by decide) (fun c53 => ?_) (fun c53 => ?_)
    · replace hf := o_t c53 hf
      exact w_X6_readNumber_B87 C0 hA hK v_at v_number x1 x3 x4 x5 H locs ls hf hP hD hS (lv_sub hl [0, 1, 2, 3, 4] rfl)
    · replace hf := o_f c53 hf
      refine lv_iload hx hb dX6_readNumber_56 (lv_at hl 3 rfl) ?_
      refine lv_bipush (v := 10) hx hb dX6_readNumber_58 (by decide) ?_
      refine lv_imul hx hb dX6_readNumber_60 ?_
      refine lv_aload_n hx hb dX6_readNumber_61 rfl (lv_at hl 0 rfl) ?_
      obtain ⟨r62, hg62, hf⟩ := o_b1_go hf
      refine g_callVi (wn := (ww_X6_readNumber cI cM a_this a_this_bytes a_this_letter a_this_number v_length v_at v_orders v_number v_bytes)) (rest := [.int (x4 * 10)]) ⟨hx, hb, hml, hown, hts⟩ (c_X6_peek l D cI cM a_this a_this_bytes a_this_letter a_this_number H.size v_length v_at v_orders v_bytes hg62) (cwV 0 hts gX6_readNumber_X6_peek rfl rfl rfl (by decide +kernel) ⟨Nat.le_of_ble_eq_true rfl, Nat.le_of_ble_eq_true rfl⟩) hK hP hD hS hA [0, 2] [1] [1, 0, 2] rfl rfl rfl rfl rfl rfl (by decide) rfl rfl rfl hl.1 rfl (Nat.le_of_ble_eq_true rfl) dX6_readNumber_62 (fun H locs hP hD hS => ?_)
      refine lv_iadd hx hb dX6_readNumber_65 ?_
      refine lv_bipush (v := 48) hx hb dX6_readNumber_66 (by decide) ?_
      refine lv_isub hx hb dX6_readNumber_68 ?_
      refine lv_topi (fun t69 et69 => ?_)
      replace hf := o_nm_go et69 hf
      refine lv_istore (lv' := [(4, .int t69), (0, .ref a_this), (1, .int x1), (3, .int x3), (5, .int x5)]) hx hb dX6_readNumber_69 hl (by decide) rfl (fun ls hl => ?_)
      refine lv_iinc (v := x5 + 1) (lv' := [(5, .int (x5 + 1)), (4, .int t69), (0, .ref a_this), (1, .int x1), (3, .int x3)]) hx hb dX6_readNumber_71 hl (k := 4) rfl rfl (by decide) rfl (fun ls hl => ?_)
      refine lv_aload_n hx hb dX6_readNumber_74 rfl (lv_at hl 2 rfl) ?_
      refine lv_dup hx hb dX6_readNumber_75 rfl ?_
      refine va_get (D := D) (ci := 4) (v := .int v_at) (C := RX6) (T := TX6) (N := 6) hx hb hts (fun _ h => (List.mem_cons_of_mem _ (List.mem_append_right _ h))) hown hK hP 0 rfl rfl 1 (by decide) (hts (.fieldLink RX6 21 "FloatBoxes$Text" "at" "I") (List.mem_cons_of_mem _ (List.mem_append_left _ (List.mem_of_getElem? (i := 0) rfl)))) (fun _ h9 => h9) rfl dX6_readNumber_76 ?_
      refine lv_iconst (v := 1) hx hb dX6_readNumber_79 (by decide) ?_
      refine lv_iadd hx hb dX6_readNumber_80 ?_
      refine va_put (D := D) (ci := 4) (v := .int (v_at + 1)) (ty := .int) (C := RX6) (T := TX6) (N := 6) hx hb hts (fun _ h => (List.mem_cons_of_mem _ (List.mem_append_right _ h))) tyX6 tyX6_ok nmX6 hown hK hP hD hS 0 rfl rfl 1 (by decide) (hts (.fieldLink RX6 21 "FloatBoxes$Text" "at" "I") (List.mem_cons_of_mem _ (List.mem_append_left _ (List.mem_of_getElem? (i := 0) rfl)))) (fun _ h9 => h9) rfl (by decide +kernel) rfl rfl (Nat.le_of_ble_eq_true rfl) dX6_readNumber_81 (fun H locs hP hD hS => ?_)
      replace hP : va_P D vwCl (ww_X6_readNumber cI cM a_this a_this_bytes a_this_letter a_this_number v_length (v_at + 1) v_orders v_number v_bytes) H := hP
      replace hD : va_D A (ww_X6_readNumber cI cM a_this a_this_bytes a_this_letter a_this_number v_length (v_at + 1) v_orders v_number v_bytes) := hD
      refine lv_goto (tgt := 39) hx hb dX6_readNumber_84 (by decide) ?_
      exact hk39 (v_at + 1) v_number x1 x3 t69 (x5 + 1) H locs ls hf hP hD hS (lv_sub hl [2, 3, 4, 1, 0] rfl)
set_option maxHeartbeats 4000000 in
set_option maxRecDepth 100000 in
theorem w_X6_readNumber_L39 {p : Program} {l : Launch} {e : Env} {s : State} {m : MethodId} {args : Array Value} {below : List Frame} {meth : Method} {c : Code} {D : va_G} {cI cM : ClassId} {A : Nat → Prop} {a_this a_this_bytes a_this_letter a_this_number : Nat} {v_orders : Int32} {N : Nat} {v_length : Int32} {v_bytes : Nat → Int32} {r : Int32} {o_at : Int32} {o_number : Nat → Int32} (C0 : g_cx cX6_readNumber (some .boolean) 6 RX6 wsX6_readNumber p s m args meth c) (hA : ∀ q, s.heap.size ≤ q → A q) (hK : va_K D vwCl (g_tys cI cM) s) : ∀ n : Nat, ∀ (v_at : Int32) (v_number : Nat → Int32) (x1 : Int32) (x3 : Int32) (x4 : Int32) (x5 : Int32) (H : Heap) (locs : List Loc) (ls : Array Slot), f_X6_readNumber_L39 N v_length v_bytes n v_at v_number x1 x3 x4 x5 = some (r, o_at, o_number) → va_P D vwCl (ww_X6_readNumber cI cM a_this a_this_bytes a_this_letter a_this_number v_length v_at v_orders v_number v_bytes) H → va_D A (ww_X6_readNumber cI cM a_this a_this_bytes a_this_letter a_this_number v_length v_at v_orders v_number v_bytes) → va_S A s.heap H locs → lv_has ls 6 [(0, .ref a_this), (1, .int x1), (3, .int x3), (4, .int x4), (5, .int x5)] → W p l e rm_X6_readNumber s m args below meth c H locs 0 0 (MQ below (g_QI D (g_tys cI cM) A (ww_X6_readNumber cI cM a_this a_this_bytes a_this_letter a_this_number v_length o_at v_orders o_number v_bytes) r) args s 0 0 A) (F0 m 39 ls []) := by
  intro n
  induction n with
  | zero =>
    intro v_at v_number x1 x3 x4 x5 H locs ls hf
    exact absurd hf (fun h => nomatch h)
  | succ n ih =>
    intro v_at v_number x1 x3 x4 x5 H locs ls hf
    exact w_X6_readNumber_C39 C0 hA hK _ ih v_at v_number x1 x3 x4 x5 H locs ls hf
def f_X6_readNumber_B33 (N : Nat) (v_length : Int32) (v_bytes : Nat → Int32) (v_at : Int32) (v_number : Nat → Int32) (x1 : Int32) (x3 : Int32) : Option (Int32 × Int32 × (Nat → Int32)) :=
  f_X6_readNumber_L39 N v_length v_bytes N v_at v_number x1 x3 0 0
set_option maxHeartbeats 4000000 in
set_option maxRecDepth 100000 in
theorem w_X6_readNumber_B33 {p : Program} {l : Launch} {e : Env} {s : State} {m : MethodId} {args : Array Value} {below : List Frame} {meth : Method} {c : Code} {D : va_G} {cI cM : ClassId} {A : Nat → Prop} {a_this a_this_bytes a_this_letter a_this_number : Nat} {v_orders : Int32} {N : Nat} {v_length : Int32} {v_bytes : Nat → Int32} {r : Int32} {o_at : Int32} {o_number : Nat → Int32} (C0 : g_cx cX6_readNumber (some .boolean) 6 RX6 wsX6_readNumber p s m args meth c) (hA : ∀ q, s.heap.size ≤ q → A q) (hK : va_K D vwCl (g_tys cI cM) s) : ∀ (v_at : Int32) (v_number : Nat → Int32) (x1 : Int32) (x3 : Int32) (H : Heap) (locs : List Loc) (ls : Array Slot), f_X6_readNumber_B33 N v_length v_bytes v_at v_number x1 x3 = some (r, o_at, o_number) → va_P D vwCl (ww_X6_readNumber cI cM a_this a_this_bytes a_this_letter a_this_number v_length v_at v_orders v_number v_bytes) H → va_D A (ww_X6_readNumber cI cM a_this a_this_bytes a_this_letter a_this_number v_length v_at v_orders v_number v_bytes) → va_S A s.heap H locs → lv_has ls 6 [(0, .ref a_this), (1, .int x1), (3, .int x3)] → W p l e rm_X6_readNumber s m args below meth c H locs 0 0 (MQ below (g_QI D (g_tys cI cM) A (ww_X6_readNumber cI cM a_this a_this_bytes a_this_letter a_this_number v_length o_at v_orders o_number v_bytes) r) args s 0 0 A) (F0 m 33 ls []) := by
  obtain ⟨hx, hb, hr, hml, hown, hts, hlocks⟩ := id C0
  intro v_at v_number x1 x3 H locs ls hf hP hD hS hl
  unfold f_X6_readNumber_B33 at hf
  refine lv_iconst (v := 0) hx hb dX6_readNumber_33 (by decide) ?_
  refine lv_istore (lv' := [(4, .int 0), (0, .ref a_this), (1, .int x1), (3, .int x3)]) hx hb dX6_readNumber_34 hl (by decide) rfl (fun ls hl => ?_)
  refine lv_iconst (v := 0) hx hb dX6_readNumber_36 (by decide) ?_
  refine lv_istore (lv' := [(5, .int 0), (4, .int 0), (0, .ref a_this), (1, .int x1), (3, .int x3)]) hx hb dX6_readNumber_37 hl (by decide) rfl (fun ls hl => ?_)
  exact w_X6_readNumber_L39 C0 hA hK N v_at v_number x1 x3 0 0 H locs ls hf hP hD hS (lv_sub hl [2, 3, 4, 1, 0] rfl)
def f_X6_readNumber_B18 (N : Nat) (v_length : Int32) (v_bytes : Nat → Int32) (v_at : Int32) (v_number : Nat → Int32) (x1 : Int32) (z0 : Int32) : Option (Int32 × Int32 × (Nat → Int32)) :=
  if z0 = 0 then
    f_X6_readNumber_B33 N v_length v_bytes v_at v_number x1 z0
  else
    f_X6_readNumber_B33 N v_length v_bytes (v_at + 1) v_number x1 z0
set_option maxHeartbeats 4000000 in
set_option maxRecDepth 100000 in
theorem w_X6_readNumber_B18 {p : Program} {l : Launch} {e : Env} {s : State} {m : MethodId} {args : Array Value} {below : List Frame} {meth : Method} {c : Code} {D : va_G} {cI cM : ClassId} {A : Nat → Prop} {a_this a_this_bytes a_this_letter a_this_number : Nat} {v_orders : Int32} {N : Nat} {v_length : Int32} {v_bytes : Nat → Int32} {r : Int32} {o_at : Int32} {o_number : Nat → Int32} (C0 : g_cx cX6_readNumber (some .boolean) 6 RX6 wsX6_readNumber p s m args meth c) (hA : ∀ q, s.heap.size ≤ q → A q) (hK : va_K D vwCl (g_tys cI cM) s) : ∀ (v_at : Int32) (v_number : Nat → Int32) (x1 : Int32) (z0 : Int32) (H : Heap) (locs : List Loc) (ls : Array Slot), f_X6_readNumber_B18 N v_length v_bytes v_at v_number x1 z0 = some (r, o_at, o_number) → va_P D vwCl (ww_X6_readNumber cI cM a_this a_this_bytes a_this_letter a_this_number v_length v_at v_orders v_number v_bytes) H → va_D A (ww_X6_readNumber cI cM a_this a_this_bytes a_this_letter a_this_number v_length v_at v_orders v_number v_bytes) → va_S A s.heap H locs → lv_has ls 6 [(0, .ref a_this), (1, .int x1)] → W p l e rm_X6_readNumber s m args below meth c H locs 0 0 (MQ below (g_QI D (g_tys cI cM) A (ww_X6_readNumber cI cM a_this a_this_bytes a_this_letter a_this_number v_length o_at v_orders o_number v_bytes) r) args s 0 0 A) (F0 m 18 ls [.int z0]) := by
  obtain ⟨hx, hb, hr, hml, hown, hts, hlocks⟩ := id C0
  intro v_at v_number x1 z0 H locs ls hf hP hD hS hl
  unfold f_X6_readNumber_B18 at hf
  refine lv_istore_n (lv' := [(3, .int z0), (0, .ref a_this), (1, .int x1)]) hx hb dX6_readNumber_18 rfl hl (by decide) rfl (fun ls hl => ?_)
  refine lv_iload_n hx hb dX6_readNumber_19 rfl (lv_at hl 0 rfl) ?_
  refine lv_if_eq (tgt := 33) hx hb dX6_readNumber_20 (by decide) (fun c20 => ?_) (fun c20 => ?_)
  · replace hf := o_t c20 hf
    exact w_X6_readNumber_B33 C0 hA hK v_at v_number x1 z0 H locs ls hf hP hD hS (lv_sub hl [1, 2, 0] rfl)
  · replace hf := o_f c20 hf
    refine lv_aload_n hx hb dX6_readNumber_23 rfl (lv_at hl 1 rfl) ?_
    refine lv_dup hx hb dX6_readNumber_24 rfl ?_
    refine va_get (D := D) (ci := 4) (v := .int v_at) (C := RX6) (T := TX6) (N := 6) hx hb hts (fun _ h => (List.mem_cons_of_mem _ (List.mem_append_right _ h))) hown hK hP 0 rfl rfl 1 (by decide) (hts (.fieldLink RX6 21 "FloatBoxes$Text" "at" "I") (List.mem_cons_of_mem _ (List.mem_append_left _ (List.mem_of_getElem? (i := 0) rfl)))) (fun _ h9 => h9) rfl dX6_readNumber_25 ?_
    refine lv_iconst (v := 1) hx hb dX6_readNumber_28 (by decide) ?_
    refine lv_iadd hx hb dX6_readNumber_29 ?_
    refine va_put (D := D) (ci := 4) (v := .int (v_at + 1)) (ty := .int) (C := RX6) (T := TX6) (N := 6) hx hb hts (fun _ h => (List.mem_cons_of_mem _ (List.mem_append_right _ h))) tyX6 tyX6_ok nmX6 hown hK hP hD hS 0 rfl rfl 1 (by decide) (hts (.fieldLink RX6 21 "FloatBoxes$Text" "at" "I") (List.mem_cons_of_mem _ (List.mem_append_left _ (List.mem_of_getElem? (i := 0) rfl)))) (fun _ h9 => h9) rfl (by decide +kernel) rfl rfl (Nat.le_of_ble_eq_true rfl) dX6_readNumber_30 (fun H locs hP hD hS => ?_)
    replace hP : va_P D vwCl (ww_X6_readNumber cI cM a_this a_this_bytes a_this_letter a_this_number v_length (v_at + 1) v_orders v_number v_bytes) H := hP
    replace hD : va_D A (ww_X6_readNumber cI cM a_this a_this_bytes a_this_letter a_this_number v_length (v_at + 1) v_orders v_number v_bytes) := hD
    exact w_X6_readNumber_B33 C0 hA hK (v_at + 1) v_number x1 z0 H locs ls hf hP hD hS (lv_sub hl [1, 2, 0] rfl)
def f_X6_readNumber_B17 (N : Nat) (v_length : Int32) (v_bytes : Nat → Int32) (v_at : Int32) (v_number : Nat → Int32) (x1 : Int32) : Option (Int32 × Int32 × (Nat → Int32)) :=
  f_X6_readNumber_B18 N v_length v_bytes v_at v_number x1 0
set_option maxHeartbeats 4000000 in
set_option maxRecDepth 100000 in
theorem w_X6_readNumber_B17 {p : Program} {l : Launch} {e : Env} {s : State} {m : MethodId} {args : Array Value} {below : List Frame} {meth : Method} {c : Code} {D : va_G} {cI cM : ClassId} {A : Nat → Prop} {a_this a_this_bytes a_this_letter a_this_number : Nat} {v_orders : Int32} {N : Nat} {v_length : Int32} {v_bytes : Nat → Int32} {r : Int32} {o_at : Int32} {o_number : Nat → Int32} (C0 : g_cx cX6_readNumber (some .boolean) 6 RX6 wsX6_readNumber p s m args meth c) (hA : ∀ q, s.heap.size ≤ q → A q) (hK : va_K D vwCl (g_tys cI cM) s) : ∀ (v_at : Int32) (v_number : Nat → Int32) (x1 : Int32) (H : Heap) (locs : List Loc) (ls : Array Slot), f_X6_readNumber_B17 N v_length v_bytes v_at v_number x1 = some (r, o_at, o_number) → va_P D vwCl (ww_X6_readNumber cI cM a_this a_this_bytes a_this_letter a_this_number v_length v_at v_orders v_number v_bytes) H → va_D A (ww_X6_readNumber cI cM a_this a_this_bytes a_this_letter a_this_number v_length v_at v_orders v_number v_bytes) → va_S A s.heap H locs → lv_has ls 6 [(0, .ref a_this), (1, .int x1)] → W p l e rm_X6_readNumber s m args below meth c H locs 0 0 (MQ below (g_QI D (g_tys cI cM) A (ww_X6_readNumber cI cM a_this a_this_bytes a_this_letter a_this_number v_length o_at v_orders o_number v_bytes) r) args s 0 0 A) (F0 m 17 ls []) := by
  obtain ⟨hx, hb, hr, hml, hown, hts, hlocks⟩ := id C0
  intro v_at v_number x1 H locs ls hf hP hD hS hl
  unfold f_X6_readNumber_B17 at hf
  refine lv_iconst (v := 0) hx hb dX6_readNumber_17 (by decide) ?_
  exact w_X6_readNumber_B18 C0 hA hK v_at v_number x1 0 H locs ls hf hP hD hS (lv_sub hl [0, 1] rfl)
def f_X6_readNumber (N : Nat) (v_length : Int32) (v_bytes : Nat → Int32) (v_at : Int32) (v_number : Nat → Int32) (x1 : Int32) (x2 : Int32) : Option (Int32 × Int32 × (Nat → Int32)) :=
  if x2 = 0 then
    f_X6_readNumber_B17 N v_length v_bytes v_at v_number x1
  else
    o_b1 (f_X6_peek v_length v_at v_bytes) (fun (r5 : Int32) =>
    if r5 = 45 then
      f_X6_readNumber_B18 N v_length v_bytes v_at v_number x1 1
    else
      f_X6_readNumber_B17 N v_length v_bytes v_at v_number x1)
set_option maxHeartbeats 4000000 in
set_option maxRecDepth 100000 in
theorem w_X6_readNumber_B0 {p : Program} {l : Launch} {e : Env} {s : State} {m : MethodId} {args : Array Value} {below : List Frame} {meth : Method} {c : Code} {D : va_G} {cI cM : ClassId} {A : Nat → Prop} {a_this a_this_bytes a_this_letter a_this_number : Nat} {v_orders : Int32} {N : Nat} {v_length : Int32} {v_bytes : Nat → Int32} {r : Int32} {o_at : Int32} {o_number : Nat → Int32} (C0 : g_cx cX6_readNumber (some .boolean) 6 RX6 wsX6_readNumber p s m args meth c) (hA : ∀ q, s.heap.size ≤ q → A q) (hK : va_K D vwCl (g_tys cI cM) s) : ∀ (v_at : Int32) (v_number : Nat → Int32) (x1 : Int32) (x2 : Int32) (H : Heap) (locs : List Loc) (ls : Array Slot), f_X6_readNumber N v_length v_bytes v_at v_number x1 x2 = some (r, o_at, o_number) → va_P D vwCl (ww_X6_readNumber cI cM a_this a_this_bytes a_this_letter a_this_number v_length v_at v_orders v_number v_bytes) H → va_D A (ww_X6_readNumber cI cM a_this a_this_bytes a_this_letter a_this_number v_length v_at v_orders v_number v_bytes) → va_S A s.heap H locs → lv_has ls 6 [(0, .ref a_this), (1, .int x1), (2, .int x2)] → W p l e rm_X6_readNumber s m args below meth c H locs 0 0 (MQ below (g_QI D (g_tys cI cM) A (ww_X6_readNumber cI cM a_this a_this_bytes a_this_letter a_this_number v_length o_at v_orders o_number v_bytes) r) args s 0 0 A) (F0 m 0 ls []) := by
  obtain ⟨hx, hb, hr, hml, hown, hts, hlocks⟩ := id C0
  intro v_at v_number x1 x2 H locs ls hf hP hD hS hl
  unfold f_X6_readNumber at hf
  refine lv_iload_n hx hb dX6_readNumber_0 rfl (lv_at hl 2 rfl) ?_
  refine lv_if_eq (tgt := 17) hx hb dX6_readNumber_1 (by decide) (fun c1 => ?_) (fun c1 => ?_)
  · replace hf := o_t c1 hf
    exact w_X6_readNumber_B17 C0 hA hK v_at v_number x1 H locs ls hf hP hD hS (lv_sub hl [0, 1] rfl)
  · replace hf := o_f c1 hf
    refine lv_aload_n hx hb dX6_readNumber_4 rfl (lv_at hl 0 rfl) ?_
    obtain ⟨r5, hg5, hf⟩ := o_b1_go hf
    refine g_callVi (wn := (ww_X6_readNumber cI cM a_this a_this_bytes a_this_letter a_this_number v_length v_at v_orders v_number v_bytes)) (rest := []) ⟨hx, hb, hml, hown, hts⟩ (c_X6_peek l D cI cM a_this a_this_bytes a_this_letter a_this_number H.size v_length v_at v_orders v_bytes hg5) (cwV 0 hts gX6_readNumber_X6_peek rfl rfl rfl (by decide +kernel) ⟨Nat.le_of_ble_eq_true rfl, Nat.le_of_ble_eq_true rfl⟩) hK hP hD hS hA [0, 2] [1] [1, 0, 2] rfl rfl rfl rfl rfl rfl (by decide) rfl rfl rfl hl.1 rfl (Nat.le_of_ble_eq_true rfl) dX6_readNumber_5 (fun H locs hP hD hS => ?_)
    refine lv_bipush (v := 45) hx hb dX6_readNumber_8 (by decide) ?_
    refine lv_icmp_ne (tgt := 17) hx hb dX6_readNumber_10 (by decide) (fun c10 => ?_) (fun c10 => ?_)
    · replace hf := o_f c10 hf
      exact w_X6_readNumber_B17 C0 hA hK v_at v_number x1 H locs ls hf hP hD hS (lv_sub hl [0, 1] rfl)
    · replace hf := o_t c10 hf
      refine lv_iconst (v := 1) hx hb dX6_readNumber_13 (by decide) ?_
      refine lv_goto (tgt := 18) hx hb dX6_readNumber_14 (by decide) ?_
      exact w_X6_readNumber_B18 C0 hA hK v_at v_number x1 1 H locs ls hf hP hD hS (lv_sub hl [0, 1] rfl)
set_option maxHeartbeats 4000000 in
set_option maxRecDepth 100000 in
theorem c_X6_readNumber (l : Launch) (D : va_G) (cI cM : ClassId) (a_this a_this_bytes a_this_letter a_this_number : Nat) (sz : Nat) (v_length : Int32) (v_at : Int32) (v_orders : Int32) (v_number : Nat → Int32) (v_bytes : Nat → Int32) {N : Nat} {x1 : Int32} {x2 : Int32} {r : Int32} {o_at : Int32} {o_number : Nat → Int32} (hf : f_X6_readNumber N v_length v_bytes v_at v_number x1 x2 = some (r, o_at, o_number)) : Met l yX6_readNumber wsX6_readNumber rm_X6_readNumber (g_Pc D (g_tys cI cM) (ww_X6_readNumber cI cM a_this a_this_bytes a_this_letter a_this_number v_length v_at v_orders v_number v_bytes) sz [.ref a_this, .int x1, .int x2]) (g_QI D (g_tys cI cM) (va_A (ww_X6_readNumber cI cM a_this a_this_bytes a_this_letter a_this_number v_length v_at v_orders v_number v_bytes) sz) (ww_X6_readNumber cI cM a_this a_this_bytes a_this_letter a_this_number v_length o_at v_orders o_number v_bytes) r) 0 0 (va_A (ww_X6_readNumber cI cM a_this a_this_bytes a_this_letter a_this_number v_length v_at v_orders v_number v_bytes) sz) := by
  refine g_met (cc := cX6_readNumber) (maxL := 6) (ret := (some .boolean)) (Qc := fun D A => g_QI D (g_tys cI cM) A (ww_X6_readNumber cI cM a_this a_this_bytes a_this_letter a_this_number v_length o_at v_orders o_number v_bytes) r) (by decide) rfl ?_
  intro p e s m below meth c A C0 hA hK hP hD
  have hl := lv_entry ([.ref a_this, .int x1, .int x2]) (n := 6) (Nat.le_of_ble_eq_true rfl)
  rw [lg_entry_eq]
  generalize (lg_sl ([.ref a_this, .int x1, .int x2]) ++ List.replicate (6 - (lg_sl ([.ref a_this, .int x1, .int x2])).length) Slot.unset).toArray = ls at hl ⊢
  have hl : lv_has ls 6 [(0, .ref a_this), (1, .int x1), (2, .int x2)] := hl
  exact w_X6_readNumber_B0 C0 hA hK v_at v_number x1 x2 s.heap [] ls hf hP hD va_S.rf (lv_sub hl [0, 1, 2] rfl)
/-! FloatBoxes$Text.readOrder()Z -/
abbrev rm_X6_readOrder : Room := { frames := 2, cells := 0, slots := 0, locals := 45 }
abbrev ww_X6_readOrder (cI cM : ClassId) (a_this a_this_bytes a_this_letter a_this_number : Nat) (v_length : Int32) (v_at : Int32) (v_orders : Int32) (v_bytes : Nat → Int32) (v_letter : Nat → Int32) (v_number : Nat → Int32) : va_W := [(a_this, .inr (4, [.int v_length, .int v_at, .int v_orders, .ref a_this_bytes, .ref a_this_letter, .ref a_this_number])), (a_this_bytes, .inl (cI, 120, .inl v_bytes)), (a_this_letter, .inl (cI, 60, .inl v_letter)), (a_this_number, .inl (cI, 240, .inl v_number))]
def f_X6_readOrder_B67 (N : Nat) (v_length : Int32) (v_orders : Int32) (v_bytes : Nat → Int32) (k38 : Int32 → (Nat → Int32) → (Nat → Int32) → Int32 → Int32 → Int32 → Option (Int32 × Int32 × (Nat → Int32) × (Nat → Int32))) (v_at : Int32) (v_letter : Nat → Int32) (v_number : Nat → Int32) (x1 : Int32) (x2 : Int32) (x3 : Int32) (z1 : Int32) (z2 : Int32) : Option (Int32 × Int32 × (Nat → Int32) × (Nat → Int32)) :=
  o_b3 (f_X6_readNumber N v_length v_bytes v_at v_number z1 z2) (fun (r67 : Int32) (v_at_67 : Int32) (v_number_67 : Nat → Int32) =>
  if r67 = 0 then
    some (0, v_at_67, v_letter, v_number_67)
  else
    k38 v_at_67 v_letter v_number_67 x1 x2 (x3 + 1))
set_option maxHeartbeats 4000000 in
set_option maxRecDepth 100000 in
theorem w_X6_readOrder_B67 {p : Program} {l : Launch} {e : Env} {s : State} {m : MethodId} {args : Array Value} {below : List Frame} {meth : Method} {c : Code} {D : va_G} {cI cM : ClassId} {A : Nat → Prop} {a_this a_this_bytes a_this_letter a_this_number : Nat} {N : Nat} {v_length : Int32} {v_orders : Int32} {v_bytes : Nat → Int32} {r : Int32} {o_at : Int32} {o_letter : Nat → Int32} {o_number : Nat → Int32} (C0 : g_cx cX6_readOrder (some .boolean) 4 RX6 wsX6_readOrder p s m args meth c) (hA : ∀ q, s.heap.size ≤ q → A q) (hK : va_K D vwCl (g_tys cI cM) s) (k38 : Int32 → (Nat → Int32) → (Nat → Int32) → Int32 → Int32 → Int32 → Option (Int32 × Int32 × (Nat → Int32) × (Nat → Int32))) (hk38 : ∀ (v_at : Int32) (v_letter : Nat → Int32) (v_number : Nat → Int32) (x1 : Int32) (x2 : Int32) (x3 : Int32) (H : Heap) (locs : List Loc) (ls : Array Slot), k38 v_at v_letter v_number x1 x2 x3 = some (r, o_at, o_letter, o_number) → va_P D vwCl (ww_X6_readOrder cI cM a_this a_this_bytes a_this_letter a_this_number v_length v_at v_orders v_bytes v_letter v_number) H → va_D A (ww_X6_readOrder cI cM a_this a_this_bytes a_this_letter a_this_number v_length v_at v_orders v_bytes v_letter v_number) → va_S A s.heap H locs → lv_has ls 4 [(0, .ref a_this), (1, .int x1), (2, .int x2), (3, .int x3)] → W p l e rm_X6_readOrder s m args below meth c H locs 0 0 (MQ below (g_QI D (g_tys cI cM) A (ww_X6_readOrder cI cM a_this a_this_bytes a_this_letter a_this_number v_length o_at v_orders v_bytes o_letter o_number) r) args s 0 0 A) (F0 m 38 ls [])) : ∀ (v_at : Int32) (v_letter : Nat → Int32) (v_number : Nat → Int32) (x1 : Int32) (x2 : Int32) (x3 : Int32) (z1 : Int32) (z2 : Int32) (H : Heap) (locs : List Loc) (ls : Array Slot), f_X6_readOrder_B67 N v_length v_orders v_bytes k38 v_at v_letter v_number x1 x2 x3 z1 z2 = some (r, o_at, o_letter, o_number) → va_P D vwCl (ww_X6_readOrder cI cM a_this a_this_bytes a_this_letter a_this_number v_length v_at v_orders v_bytes v_letter v_number) H → va_D A (ww_X6_readOrder cI cM a_this a_this_bytes a_this_letter a_this_number v_length v_at v_orders v_bytes v_letter v_number) → va_S A s.heap H locs → lv_has ls 4 [(0, .ref a_this), (1, .int x1), (2, .int x2), (3, .int x3)] → W p l e rm_X6_readOrder s m args below meth c H locs 0 0 (MQ below (g_QI D (g_tys cI cM) A (ww_X6_readOrder cI cM a_this a_this_bytes a_this_letter a_this_number v_length o_at v_orders v_bytes o_letter o_number) r) args s 0 0 A) (F0 m 67 ls [.int z2, .int z1, .ref a_this]) := by
  obtain ⟨hx, hb, hr, hml, hown, hts, hlocks⟩ := id C0
  intro v_at v_letter v_number x1 x2 x3 z1 z2 H locs ls hf hP hD hS hl
  unfold f_X6_readOrder_B67 at hf
  obtain ⟨r67, v_at_67, v_number_67, hg67, hf⟩ := o_b3_go hf
  refine g_callVi (wn := (ww_X6_readOrder cI cM a_this a_this_bytes a_this_letter a_this_number v_length v_at_67 v_orders v_bytes v_letter v_number_67)) (rest := []) ⟨hx, hb, hml, hown, hts⟩ (c_X6_readNumber l D cI cM a_this a_this_bytes a_this_letter a_this_number H.size v_length v_at v_orders v_number v_bytes hg67) (cwV 2 hts gX6_readOrder_X6_readNumber rfl rfl rfl (by decide +kernel) ⟨Nat.le_of_ble_eq_true rfl, Nat.le_of_ble_eq_true rfl⟩) hK hP hD hS hA [0, 3, 1] [2] [1, 3, 0, 2] rfl rfl rfl rfl rfl rfl (by decide) rfl rfl rfl hl.1 rfl (Nat.le_of_ble_eq_true rfl) dX6_readOrder_67 (fun H locs hP hD hS => ?_)
  refine lv_if_ne (tgt := 75) hx hb dX6_readOrder_70 (by decide) (fun c70 => ?_) (fun c70 => ?_)
  · replace hf := o_f c70 hf
    refine lv_iinc (v := x3 + 1) (lv' := [(3, .int (x3 + 1)), (0, .ref a_this), (1, .int x1), (2, .int x2)]) hx hb dX6_readOrder_75 hl (k := 3) rfl rfl (by decide) rfl (fun ls hl => ?_)
    refine lv_goto (tgt := 38) hx hb dX6_readOrder_78 (by decide) ?_
    exact hk38 v_at_67 v_letter v_number_67 x1 x2 (x3 + 1) H locs ls hf hP hD hS (lv_sub hl [1, 2, 3, 0] rfl)
  · replace hf := o_t c70 hf
    refine lv_iconst (v := 0) hx hb dX6_readOrder_73 (by decide) ?_
    obtain ⟨q0, y0⟩ := o_rp hf
    obtain ⟨q1, y1⟩ := o_rp y0
    obtain ⟨q2, y2⟩ := o_rp y1
    have q3 := Option.some.inj y2
    subst q0 q1 q2 q3
    exact g_zret hx hb hr hlocks (by decide) hP hD hK hS dX6_readOrder_74
def f_X6_readOrder_C38 (N : Nat) (v_length : Int32) (v_orders : Int32) (v_bytes : Nat → Int32) (k38 : Int32 → (Nat → Int32) → (Nat → Int32) → Int32 → Int32 → Int32 → Option (Int32 × Int32 × (Nat → Int32) × (Nat → Int32))) (v_at : Int32) (v_letter : Nat → Int32) (v_number : Nat → Int32) (x1 : Int32) (x2 : Int32) (x3 : Int32) : Option (Int32 × Int32 × (Nat → Int32) × (Nat → Int32)) :=
  if x2 ≤ x3 then
    o_b1 (f_X6_skipBlanks N v_length v_bytes v_at) (fun (v_at_82 : Int32) =>
    o_b1 (f_X6_peek v_length v_at_82 v_bytes) (fun (r86 : Int32) =>
    if r86 = 59 then
      some (1, v_at_82 + 1, v_letter, v_number)
    else
      some (0, v_at_82, v_letter, v_number)))
  else
    o_b1 (f_X6_skipBlanks N v_length v_bytes v_at) (fun (v_at_44 : Int32) =>
    if x1 = 117 then
      f_X6_readOrder_B67 N v_length v_orders v_bytes k38 v_at_44 v_letter v_number x1 x2 x3 ((v_orders * 4) + x3) 1
    else
      f_X6_readOrder_B67 N v_length v_orders v_bytes k38 v_at_44 v_letter v_number x1 x2 x3 ((v_orders * 4) + x3) 0)
def f_X6_readOrder_L38 (N : Nat) (v_length : Int32) (v_orders : Int32) (v_bytes : Nat → Int32) : Nat → Int32 → (Nat → Int32) → (Nat → Int32) → Int32 → Int32 → Int32 → Option (Int32 × Int32 × (Nat → Int32) × (Nat → Int32))
  | 0 => fun _ _ _ _ _ _ => none
  | n + 1 => f_X6_readOrder_C38 N v_length v_orders v_bytes (f_X6_readOrder_L38 N v_length v_orders v_bytes n)
set_option maxHeartbeats 4000000 in
set_option maxRecDepth 100000 in
theorem w_X6_readOrder_C38 {p : Program} {l : Launch} {e : Env} {s : State} {m : MethodId} {args : Array Value} {below : List Frame} {meth : Method} {c : Code} {D : va_G} {cI cM : ClassId} {A : Nat → Prop} {a_this a_this_bytes a_this_letter a_this_number : Nat} {N : Nat} {v_length : Int32} {v_orders : Int32} {v_bytes : Nat → Int32} {r : Int32} {o_at : Int32} {o_letter : Nat → Int32} {o_number : Nat → Int32} (C0 : g_cx cX6_readOrder (some .boolean) 4 RX6 wsX6_readOrder p s m args meth c) (hA : ∀ q, s.heap.size ≤ q → A q) (hK : va_K D vwCl (g_tys cI cM) s) (k38 : Int32 → (Nat → Int32) → (Nat → Int32) → Int32 → Int32 → Int32 → Option (Int32 × Int32 × (Nat → Int32) × (Nat → Int32))) (hk38 : ∀ (v_at : Int32) (v_letter : Nat → Int32) (v_number : Nat → Int32) (x1 : Int32) (x2 : Int32) (x3 : Int32) (H : Heap) (locs : List Loc) (ls : Array Slot), k38 v_at v_letter v_number x1 x2 x3 = some (r, o_at, o_letter, o_number) → va_P D vwCl (ww_X6_readOrder cI cM a_this a_this_bytes a_this_letter a_this_number v_length v_at v_orders v_bytes v_letter v_number) H → va_D A (ww_X6_readOrder cI cM a_this a_this_bytes a_this_letter a_this_number v_length v_at v_orders v_bytes v_letter v_number) → va_S A s.heap H locs → lv_has ls 4 [(0, .ref a_this), (1, .int x1), (2, .int x2), (3, .int x3)] → W p l e rm_X6_readOrder s m args below meth c H locs 0 0 (MQ below (g_QI D (g_tys cI cM) A (ww_X6_readOrder cI cM a_this a_this_bytes a_this_letter a_this_number v_length o_at v_orders v_bytes o_letter o_number) r) args s 0 0 A) (F0 m 38 ls [])) : ∀ (v_at : Int32) (v_letter : Nat → Int32) (v_number : Nat → Int32) (x1 : Int32) (x2 : Int32) (x3 : Int32) (H : Heap) (locs : List Loc) (ls : Array Slot), f_X6_readOrder_C38 N v_length v_orders v_bytes k38 v_at v_letter v_number x1 x2 x3 = some (r, o_at, o_letter, o_number) → va_P D vwCl (ww_X6_readOrder cI cM a_this a_this_bytes a_this_letter a_this_number v_length v_at v_orders v_bytes v_letter v_number) H → va_D A (ww_X6_readOrder cI cM a_this a_this_bytes a_this_letter a_this_number v_length v_at v_orders v_bytes v_letter v_number) → va_S A s.heap H locs → lv_has ls 4 [(0, .ref a_this), (1, .int x1), (2, .int x2), (3, .int x3)] → W p l e rm_X6_readOrder s m args below meth c H locs 0 0 (MQ below (g_QI D (g_tys cI cM) A (ww_X6_readOrder cI cM a_this a_this_bytes a_this_letter a_this_number v_length o_at v_orders v_bytes o_letter o_number) r) args s 0 0 A) (F0 m 38 ls []) := by
  obtain ⟨hx, hb, hr, hml, hown, hts, hlocks⟩ := id C0
  intro v_at v_letter v_number x1 x2 x3 H locs ls hf hP hD hS hl
  unfold f_X6_readOrder_C38 at hf
  refine lv_iload_n hx hb dX6_readOrder_38 rfl (lv_at hl 3 rfl) ?_
  refine lv_iload_n hx hb dX6_readOrder_39 rfl (lv_at hl 2 rfl) ?_
  refine lv_icmp_ge (tgt := 81) hx hb dX6_readOrder_40 (by decide) (fun c40 => ?_) (fun c40 => ?_)
  · replace hf := o_t c40 hf
    refine lv_aload_n hx hb dX6_readOrder_81 rfl (lv_at hl 0 rfl) ?_
    obtain ⟨v_at_82, hg82, hf⟩ := o_b1_go hf
    refine g_callVv (wn := (ww_X6_readOrder cI cM a_this a_this_bytes a_this_letter a_this_number v_length v_at_82 v_orders v_bytes v_letter v_number)) (rest := []) ⟨hx, hb, hml, hown, hts⟩ (c_X6_skipBlanks l D cI cM a_this a_this_bytes a_this_letter a_this_number H.size v_length v_at v_orders v_bytes hg82) (cwV 0 hts gX6_readOrder_X6_skipBlanks rfl rfl rfl (by decide +kernel) ⟨Nat.le_of_ble_eq_true rfl, Nat.le_of_ble_eq_true rfl⟩) hK hP hD hS hA [0, 1] [2, 3] [2, 3, 0, 1] rfl rfl rfl rfl rfl rfl (by decide) rfl rfl rfl hl.1 rfl (Nat.le_of_ble_eq_true rfl) dX6_readOrder_82 (fun H locs hP hD hS => ?_)
    refine lv_aload_n hx hb dX6_readOrder_85 rfl (lv_at hl 0 rfl) ?_
    obtain ⟨r86, hg86, hf⟩ := o_b1_go hf
    refine g_callVi (wn := (ww_X6_readOrder cI cM a_this a_this_bytes a_this_letter a_this_number v_length v_at_82 v_orders v_bytes v_letter v_number)) (rest := []) ⟨hx, hb, hml, hown, hts⟩ (c_X6_peek l D cI cM a_this a_this_bytes a_this_letter a_this_number H.size v_length v_at_82 v_orders v_bytes hg86) (cwV 0 hts gX6_readOrder_X6_peek rfl rfl rfl (by decide +kernel) ⟨Nat.le_of_ble_eq_true rfl, Nat.le_of_ble_eq_true rfl⟩) hK hP hD hS hA [0, 1] [2, 3] [2, 3, 0, 1] rfl rfl rfl rfl rfl rfl (by decide) rfl rfl rfl hl.1 rfl (Nat.le_of_ble_eq_true rfl) dX6_readOrder_86 (fun H locs hP hD hS => ?_)
    refine lv_bipush (v := 59) hx hb dX6_readOrder_89 (by decide) ?_
    refine lv_icmp_eq (tgt := 96) hx hb dX6_readOrder_91 (by decide) (fun c91 => ?_) (fun c91 => ?_)
    · replace hf := o_t c91 hf
      refine lv_aload_n hx hb dX6_readOrder_96 rfl (lv_at hl 0 rfl) ?_
      refine lv_dup hx hb dX6_readOrder_97 rfl ?_
      refine va_get (D := D) (ci := 4) (v := .int v_at_82) (C := RX6) (T := TX6) (N := 6) hx hb hts (fun _ h => (List.mem_cons_of_mem _ (List.mem_append_right _ h))) hown hK hP 0 rfl rfl 1 (by decide) (hts (.fieldLink RX6 21 "FloatBoxes$Text" "at" "I") (List.mem_cons_of_mem _ (List.mem_append_left _ (List.mem_append_left _ (List.mem_of_getElem? (i := 0) rfl))))) (fun _ h9 => h9) rfl dX6_readOrder_98 ?_
      refine lv_iconst (v := 1) hx hb dX6_readOrder_101 (by decide) ?_
      refine lv_iadd hx hb dX6_readOrder_102 ?_
      refine va_put (D := D) (ci := 4) (v := .int (v_at_82 + 1)) (ty := .int) (C := RX6) (T := TX6) (N := 6) hx hb hts (fun _ h => (List.mem_cons_of_mem _ (List.mem_append_right _ h))) tyX6 tyX6_ok nmX6 hown hK hP hD hS 0 rfl rfl 1 (by decide) (hts (.fieldLink RX6 21 "FloatBoxes$Text" "at" "I") (List.mem_cons_of_mem _ (List.mem_append_left _ (List.mem_append_left _ (List.mem_of_getElem? (i := 0) rfl))))) (fun _ h9 => h9) rfl (by decide +kernel) rfl rfl (Nat.le_of_ble_eq_true rfl) dX6_readOrder_103 (fun H locs hP hD hS => ?_)
      replace hP : va_P D vwCl (ww_X6_readOrder cI cM a_this a_this_bytes a_this_letter a_this_number v_length (v_at_82 + 1) v_orders v_bytes v_letter v_number) H := hP
      replace hD : va_D A (ww_X6_readOrder cI cM a_this a_this_bytes a_this_letter a_this_number v_length (v_at_82 + 1) v_orders v_bytes v_letter v_number) := hD
      refine lv_iconst (v := 1) hx hb dX6_readOrder_106 (by decide) ?_
      obtain ⟨q0, y0⟩ := o_rp hf
      obtain ⟨q1, y1⟩ := o_rp y0
      obtain ⟨q2, y2⟩ := o_rp y1
      have q3 := Option.some.inj y2
      subst q0 q1 q2 q3
      exact g_zret hx hb hr hlocks (by decide) hP hD hK hS dX6_readOrder_107
    · replace hf := o_f c91 hf
      refine lv_iconst (v := 0) hx hb dX6_readOrder_94 (by decide) ?_
      obtain ⟨q0, y0⟩ := o_rp hf
      obtain ⟨q1, y1⟩ := o_rp y0
      obtain ⟨q2, y2⟩ := o_rp y1
      have q3 := Option.some.inj y2
      subst q0 q1 q2 q3
      exact g_zret hx hb hr hlocks (by decide) hP hD hK hS dX6_readOrder_95
  · replace hf := o_f c40 hf
    refine lv_aload_n hx hb dX6_readOrder_43 rfl (lv_at hl 0 rfl) ?_
    obtain ⟨v_at_44, hg44, hf⟩ := o_b1_go hf
    refine g_callVv (wn := (ww_X6_readOrder cI cM a_this a_this_bytes a_this_letter a_this_number v_length v_at_44 v_orders v_bytes v_letter v_number)) (rest := []) ⟨hx, hb, hml, hown, hts⟩ (c_X6_skipBlanks l D cI cM a_this a_this_bytes a_this_letter a_this_number H.size v_length v_at v_orders v_bytes hg44) (cwV 0 hts gX6_readOrder_X6_skipBlanks rfl rfl rfl (by decide +kernel) ⟨Nat.le_of_ble_eq_true rfl, Nat.le_of_ble_eq_true rfl⟩) hK hP hD hS hA [0, 1] [2, 3] [2, 3, 0, 1] rfl rfl rfl rfl rfl rfl (by decide) rfl rfl rfl hl.1 rfl (Nat.le_of_ble_eq_true rfl) dX6_readOrder_44 (fun H locs hP hD hS => ?_)
    refine lv_aload_n hx hb dX6_readOrder_47 rfl (lv_at hl 0 rfl) ?_
    refine lv_aload_n hx hb dX6_readOrder_48 rfl (lv_at hl 0 rfl) ?_
    refine va_get (D := D) (ci := 4) (v := .int v_orders) (C := RX6) (T := TX6) (N := 6) hx hb hts (fun _ h => (List.mem_cons_of_mem _ (List.mem_append_right _ h))) hown hK hP 0 rfl rfl 2 (by decide) (hts (.fieldLink RX6 25 "FloatBoxes$Text" "orders" "I") (List.mem_cons_of_mem _ (List.mem_append_left _ (List.mem_append_left _ (List.mem_of_getElem? (i := 2) rfl))))) (fun _ h9 => h9) rfl dX6_readOrder_49 ?_
    refine lv_iconst (v := 4) hx hb dX6_readOrder_52 (by decide) ?_
    refine lv_imul hx hb dX6_readOrder_53 ?_
    refine lv_iload_n hx hb dX6_readOrder_54 rfl (lv_at hl 3 rfl) ?_
    refine lv_iadd hx hb dX6_readOrder_55 ?_
    refine lv_iload_n hx hb dX6_readOrder_56 rfl (lv_at hl 1 rfl) ?_
    refine lv_bipush (v := 117) hx hb dX6_readOrder_57 (by decide) ?_
    refine lv_icmp_ne (tgt := 66) hx hb dX6_readOrder_59 (by decide) (fun c59 => ?_) (fun c59 => ?_)
    · replace hf := o_f c59 hf
      refine lv_iconst (v := 0) hx hb dX6_readOrder_66 (by decide) ?_
      exact w_X6_readOrder_B67 C0 hA hK k38 hk38 v_at_44 v_letter v_number x1 x2 x3 ((v_orders * 4) + x3) 0 H locs ls hf hP hD hS (lv_sub hl [0, 1, 2, 3] rfl)
    · replace hf := o_t c59 hf
      refine lv_iconst (v := 1) hx hb dX6_readOrder_62 (by decide) ?_
      refine lv_goto (tgt := 67) hx hb dX6_readOrder_63 (by decide) ?_
      exact w_X6_readOrder_B67 C0 hA hK k38 hk38 v_at_44 v_letter v_number x1 x2 x3 ((v_orders * 4) + x3) 1 H locs ls hf hP hD hS (lv_sub hl [0, 1, 2, 3] rfl)
set_option maxHeartbeats 4000000 in
set_option maxRecDepth 100000 in
theorem w_X6_readOrder_L38 {p : Program} {l : Launch} {e : Env} {s : State} {m : MethodId} {args : Array Value} {below : List Frame} {meth : Method} {c : Code} {D : va_G} {cI cM : ClassId} {A : Nat → Prop} {a_this a_this_bytes a_this_letter a_this_number : Nat} {N : Nat} {v_length : Int32} {v_orders : Int32} {v_bytes : Nat → Int32} {r : Int32} {o_at : Int32} {o_letter : Nat → Int32} {o_number : Nat → Int32} (C0 : g_cx cX6_readOrder (some .boolean) 4 RX6 wsX6_readOrder p s m args meth c) (hA : ∀ q, s.heap.size ≤ q → A q) (hK : va_K D vwCl (g_tys cI cM) s) : ∀ n : Nat, ∀ (v_at : Int32) (v_letter : Nat → Int32) (v_number : Nat → Int32) (x1 : Int32) (x2 : Int32) (x3 : Int32) (H : Heap) (locs : List Loc) (ls : Array Slot), f_X6_readOrder_L38 N v_length v_orders v_bytes n v_at v_letter v_number x1 x2 x3 = some (r, o_at, o_letter, o_number) → va_P D vwCl (ww_X6_readOrder cI cM a_this a_this_bytes a_this_letter a_this_number v_length v_at v_orders v_bytes v_letter v_number) H → va_D A (ww_X6_readOrder cI cM a_this a_this_bytes a_this_letter a_this_number v_length v_at v_orders v_bytes v_letter v_number) → va_S A s.heap H locs → lv_has ls 4 [(0, .ref a_this), (1, .int x1), (2, .int x2), (3, .int x3)] → W p l e rm_X6_readOrder s m args below meth c H locs 0 0 (MQ below (g_QI D (g_tys cI cM) A (ww_X6_readOrder cI cM a_this a_this_bytes a_this_letter a_this_number v_length o_at v_orders v_bytes o_letter o_number) r) args s 0 0 A) (F0 m 38 ls []) := by
  intro n
  induction n with
  | zero =>
    intro v_at v_letter v_number x1 x2 x3 H locs ls hf
    exact absurd hf (fun h => nomatch h)
  | succ n ih =>
    intro v_at v_letter v_number x1 x2 x3 H locs ls hf
    exact w_X6_readOrder_C38 C0 hA hK _ ih v_at v_letter v_number x1 x2 x3 H locs ls hf
def f_X6_readOrder (N : Nat) (v_length : Int32) (v_orders : Int32) (v_bytes : Nat → Int32) (v_at : Int32) (v_letter : Nat → Int32) (v_number : Nat → Int32) : Option (Int32 × Int32 × (Nat → Int32) × (Nat → Int32)) :=
  o_b1 (f_X6_peek v_length v_at v_bytes) (fun (r1 : Int32) =>
  o_b1 (f_X6_numbersOf r1) (fun (r6 : Int32) =>
  if 0 ≤ r6 then
    o_in v_orders 60 (
    f_X6_readOrder_L38 N v_length v_orders v_bytes N (v_at + 1) (upd v_letter v_orders.toNatClampNeg r1) v_number r1 r6 0)
  else
    some (0, v_at, v_letter, v_number)))
set_option maxHeartbeats 4000000 in
set_option maxRecDepth 100000 in
theorem w_X6_readOrder_B0 {p : Program} {l : Launch} {e : Env} {s : State} {m : MethodId} {args : Array Value} {below : List Frame} {meth : Method} {c : Code} {D : va_G} {cI cM : ClassId} {A : Nat → Prop} {a_this a_this_bytes a_this_letter a_this_number : Nat} {N : Nat} {v_length : Int32} {v_orders : Int32} {v_bytes : Nat → Int32} {r : Int32} {o_at : Int32} {o_letter : Nat → Int32} {o_number : Nat → Int32} (C0 : g_cx cX6_readOrder (some .boolean) 4 RX6 wsX6_readOrder p s m args meth c) (hA : ∀ q, s.heap.size ≤ q → A q) (hK : va_K D vwCl (g_tys cI cM) s) : ∀ (v_at : Int32) (v_letter : Nat → Int32) (v_number : Nat → Int32) (H : Heap) (locs : List Loc) (ls : Array Slot), f_X6_readOrder N v_length v_orders v_bytes v_at v_letter v_number = some (r, o_at, o_letter, o_number) → va_P D vwCl (ww_X6_readOrder cI cM a_this a_this_bytes a_this_letter a_this_number v_length v_at v_orders v_bytes v_letter v_number) H → va_D A (ww_X6_readOrder cI cM a_this a_this_bytes a_this_letter a_this_number v_length v_at v_orders v_bytes v_letter v_number) → va_S A s.heap H locs → lv_has ls 4 [(0, .ref a_this)] → W p l e rm_X6_readOrder s m args below meth c H locs 0 0 (MQ below (g_QI D (g_tys cI cM) A (ww_X6_readOrder cI cM a_this a_this_bytes a_this_letter a_this_number v_length o_at v_orders v_bytes o_letter o_number) r) args s 0 0 A) (F0 m 0 ls []) := by
  obtain ⟨hx, hb, hr, hml, hown, hts, hlocks⟩ := id C0
  intro v_at v_letter v_number H locs ls hf hP hD hS hl
  unfold f_X6_readOrder at hf
  refine lv_aload_n hx hb dX6_readOrder_0 rfl (lv_at hl 0 rfl) ?_
  obtain ⟨r1, hg1, hf⟩ := o_b1_go hf
  refine g_callVi (wn := (ww_X6_readOrder cI cM a_this a_this_bytes a_this_letter a_this_number v_length v_at v_orders v_bytes v_letter v_number)) (rest := []) ⟨hx, hb, hml, hown, hts⟩ (c_X6_peek l D cI cM a_this a_this_bytes a_this_letter a_this_number H.size v_length v_at v_orders v_bytes hg1) (cwV 0 hts gX6_readOrder_X6_peek rfl rfl rfl (by decide +kernel) ⟨Nat.le_of_ble_eq_true rfl, Nat.le_of_ble_eq_true rfl⟩) hK hP hD hS hA [0, 1] [2, 3] [2, 3, 0, 1] rfl rfl rfl rfl rfl rfl (by decide) rfl rfl rfl hl.1 rfl (Nat.le_of_ble_eq_true rfl) dX6_readOrder_1 (fun H locs hP hD hS => ?_)
  refine lv_istore_n (lv' := [(1, .int r1), (0, .ref a_this)]) hx hb dX6_readOrder_4 rfl hl (by decide) rfl (fun ls hl => ?_)
  refine lv_iload_n hx hb dX6_readOrder_5 rfl (lv_at hl 0 rfl) ?_
  obtain ⟨r6, hg6, hf⟩ := o_b1_go hf
  refine g_callSi (rest := []) ⟨hx, hb, hml, hown, hts⟩ (c_X6_numbersOf l hg6) (va_cwS 1 hts gX6_readOrder_X6_numbersOf rfl rfl rfl (by decide +kernel) ⟨Nat.le_of_ble_eq_true rfl, Nat.le_of_ble_eq_true rfl⟩) rfl hl.1 rfl (Nat.le_of_ble_eq_true rfl) dX6_readOrder_6 ?_
  refine lv_istore_n (lv' := [(2, .int r6), (1, .int r1), (0, .ref a_this)]) hx hb dX6_readOrder_9 rfl hl (by decide) rfl (fun ls hl => ?_)
  refine lv_iload_n hx hb dX6_readOrder_10 rfl (lv_at hl 0 rfl) ?_
  refine lv_if_ge (tgt := 16) hx hb dX6_readOrder_11 (by decide) (fun c11 => ?_) (fun c11 => ?_)
  · replace hf := o_t c11 hf
    refine lv_aload_n hx hb dX6_readOrder_16 rfl (lv_at hl 2 rfl) ?_
    refine lv_dup hx hb dX6_readOrder_17 rfl ?_
    refine va_get (D := D) (ci := 4) (v := .int v_at) (C := RX6) (T := TX6) (N := 6) hx hb hts (fun _ h => (List.mem_cons_of_mem _ (List.mem_append_right _ h))) hown hK hP 0 rfl rfl 1 (by decide) (hts (.fieldLink RX6 21 "FloatBoxes$Text" "at" "I") (List.mem_cons_of_mem _ (List.mem_append_left _ (List.mem_append_left _ (List.mem_of_getElem? (i := 0) rfl))))) (fun _ h9 => h9) rfl dX6_readOrder_18 ?_
    refine lv_iconst (v := 1) hx hb dX6_readOrder_21 (by decide) ?_
    refine lv_iadd hx hb dX6_readOrder_22 ?_
    refine va_put (D := D) (ci := 4) (v := .int (v_at + 1)) (ty := .int) (C := RX6) (T := TX6) (N := 6) hx hb hts (fun _ h => (List.mem_cons_of_mem _ (List.mem_append_right _ h))) tyX6 tyX6_ok nmX6 hown hK hP hD hS 0 rfl rfl 1 (by decide) (hts (.fieldLink RX6 21 "FloatBoxes$Text" "at" "I") (List.mem_cons_of_mem _ (List.mem_append_left _ (List.mem_append_left _ (List.mem_of_getElem? (i := 0) rfl))))) (fun _ h9 => h9) rfl (by decide +kernel) rfl rfl (Nat.le_of_ble_eq_true rfl) dX6_readOrder_23 (fun H locs hP hD hS => ?_)
    replace hP : va_P D vwCl (ww_X6_readOrder cI cM a_this a_this_bytes a_this_letter a_this_number v_length (v_at + 1) v_orders v_bytes v_letter v_number) H := hP
    replace hD : va_D A (ww_X6_readOrder cI cM a_this a_this_bytes a_this_letter a_this_number v_length (v_at + 1) v_orders v_bytes v_letter v_number) := hD
    refine lv_aload_n hx hb dX6_readOrder_26 rfl (lv_at hl 2 rfl) ?_
    refine va_get (D := D) (ci := 4) (v := .ref a_this_letter) (C := RX6) (T := TX6) (N := 6) hx hb hts (fun _ h => (List.mem_cons_of_mem _ (List.mem_append_right _ h))) hown hK hP 0 rfl rfl 4 (by decide) (hts (.fieldLink RX6 15 "FloatBoxes$Text" "letter" "[I") (List.mem_cons_of_mem _ (List.mem_append_left _ (List.mem_append_left _ (List.mem_of_getElem? (i := 1) rfl))))) (fun _ h9 => h9) rfl dX6_readOrder_27 ?_
    refine lv_aload_n hx hb dX6_readOrder_30 rfl (lv_at hl 2 rfl) ?_
    refine va_get (D := D) (ci := 4) (v := .int v_orders) (C := RX6) (T := TX6) (N := 6) hx hb hts (fun _ h => (List.mem_cons_of_mem _ (List.mem_append_right _ h))) hown hK hP 0 rfl rfl 2 (by decide) (hts (.fieldLink RX6 25 "FloatBoxes$Text" "orders" "I") (List.mem_cons_of_mem _ (List.mem_append_left _ (List.mem_append_left _ (List.mem_of_getElem? (i := 2) rfl))))) (fun _ h9 => h9) rfl dX6_readOrder_31 ?_
    refine lv_iload_n hx hb dX6_readOrder_34 rfl (lv_at hl 1 rfl) ?_
    obtain ⟨h35, hf⟩ := o_in_go hf
    refine va_iast hx hb hK hP hD hS 2 0 rfl rfl h35 dX6_readOrder_35 (fun H locs hP hD hS => ?_)
    replace hP : va_P D vwCl (ww_X6_readOrder cI cM a_this a_this_bytes a_this_letter a_this_number v_length (v_at + 1) v_orders v_bytes (upd v_letter v_orders.toNatClampNeg r1) v_number) H := hP
    replace hD : va_D A (ww_X6_readOrder cI cM a_this a_this_bytes a_this_letter a_this_number v_length (v_at + 1) v_orders v_bytes (upd v_letter v_orders.toNatClampNeg r1) v_number) := hD
    refine lv_iconst (v := 0) hx hb dX6_readOrder_36 (by decide) ?_
    refine lv_istore_n (lv' := [(3, .int 0), (2, .int r6), (1, .int r1), (0, .ref a_this)]) hx hb dX6_readOrder_37 rfl hl (by decide) rfl (fun ls hl => ?_)
    exact w_X6_readOrder_L38 C0 hA hK N (v_at + 1) (upd v_letter v_orders.toNatClampNeg r1) v_number r1 r6 0 H locs ls hf hP hD hS (lv_sub hl [3, 2, 1, 0] rfl)
  · replace hf := o_f c11 hf
    refine lv_iconst (v := 0) hx hb dX6_readOrder_14 (by decide) ?_
    obtain ⟨q0, y0⟩ := o_rp hf
    obtain ⟨q1, y1⟩ := o_rp y0
    obtain ⟨q2, y2⟩ := o_rp y1
    have q3 := Option.some.inj y2
    subst q0 q1 q2 q3
    exact g_zret hx hb hr hlocks (by decide) hP hD hK hS dX6_readOrder_15
set_option maxHeartbeats 4000000 in
set_option maxRecDepth 100000 in
theorem c_X6_readOrder (l : Launch) (D : va_G) (cI cM : ClassId) (a_this a_this_bytes a_this_letter a_this_number : Nat) (sz : Nat) (v_length : Int32) (v_at : Int32) (v_orders : Int32) (v_bytes : Nat → Int32) (v_letter : Nat → Int32) (v_number : Nat → Int32) {N : Nat} {r : Int32} {o_at : Int32} {o_letter : Nat → Int32} {o_number : Nat → Int32} (hf : f_X6_readOrder N v_length v_orders v_bytes v_at v_letter v_number = some (r, o_at, o_letter, o_number)) : Met l yX6_readOrder wsX6_readOrder rm_X6_readOrder (g_Pc D (g_tys cI cM) (ww_X6_readOrder cI cM a_this a_this_bytes a_this_letter a_this_number v_length v_at v_orders v_bytes v_letter v_number) sz [.ref a_this]) (g_QI D (g_tys cI cM) (va_A (ww_X6_readOrder cI cM a_this a_this_bytes a_this_letter a_this_number v_length v_at v_orders v_bytes v_letter v_number) sz) (ww_X6_readOrder cI cM a_this a_this_bytes a_this_letter a_this_number v_length o_at v_orders v_bytes o_letter o_number) r) 0 0 (va_A (ww_X6_readOrder cI cM a_this a_this_bytes a_this_letter a_this_number v_length v_at v_orders v_bytes v_letter v_number) sz) := by
  refine g_met (cc := cX6_readOrder) (maxL := 4) (ret := (some .boolean)) (Qc := fun D A => g_QI D (g_tys cI cM) A (ww_X6_readOrder cI cM a_this a_this_bytes a_this_letter a_this_number v_length o_at v_orders v_bytes o_letter o_number) r) (by decide) rfl ?_
  intro p e s m below meth c A C0 hA hK hP hD
  have hl := lv_entry ([.ref a_this]) (n := 4) (Nat.le_of_ble_eq_true rfl)
  rw [lg_entry_eq]
  generalize (lg_sl ([.ref a_this]) ++ List.replicate (4 - (lg_sl ([.ref a_this])).length) Slot.unset).toArray = ls at hl ⊢
  have hl : lv_has ls 4 [(0, .ref a_this)] := hl
  exact w_X6_readOrder_B0 C0 hA hK v_at v_letter v_number s.heap [] ls hf hP hD va_S.rf (lv_sub hl [0] rfl)
/-! FloatBoxes$Text.parse()Z -/
abbrev rm_X6_parse : Room := { frames := 3, cells := 0, slots := 0, locals := 68 }
abbrev ww_X6_parse (cI cM : ClassId) (a_this a_this_bytes a_this_letter a_this_number : Nat) (v_length : Int32) (v_at : Int32) (v_orders : Int32) (v_bytes : Nat → Int32) (v_letter : Nat → Int32) (v_number : Nat → Int32) : va_W := [(a_this, .inr (4, [.int v_length, .int v_at, .int v_orders, .ref a_this_bytes, .ref a_this_letter, .ref a_this_number])), (a_this_bytes, .inl (cI, 120, .inl v_bytes)), (a_this_letter, .inl (cI, 60, .inl v_letter)), (a_this_number, .inl (cI, 240, .inl v_number))]
def f_X6_parse_C14 (N : Nat) (v_length : Int32) (v_bytes : Nat → Int32) (k14 : Int32 → Int32 → (Nat → Int32) → (Nat → Int32) → Option (Int32 × Int32 × Int32 × (Nat → Int32) × (Nat → Int32))) (v_at : Int32) (v_orders : Int32) (v_letter : Nat → Int32) (v_number : Nat → Int32) : Option (Int32 × Int32 × Int32 × (Nat → Int32) × (Nat → Int32)) :=
  if 60 ≤ v_orders then
    some (0, v_at, v_orders, v_letter, v_number)
  else
    o_b4 (f_X6_readOrder N v_length v_orders v_bytes v_at v_letter v_number) (fun (r24 : Int32) (v_at_24 : Int32) (v_letter_24 : Nat → Int32) (v_number_24 : Nat → Int32) =>
    if r24 = 0 then
      some (0, v_at_24, v_orders, v_letter_24, v_number_24)
    else
      o_b1 (f_X6_skipBlanks N v_length v_bytes v_at_24) (fun (v_at_41 : Int32) =>
      if v_at_41 < v_length then
        k14 v_at_41 (v_orders + 1) v_letter_24 v_number_24
      else
        some (1, v_at_41, v_orders + 1, v_letter_24, v_number_24)))
def f_X6_parse_L14 (N : Nat) (v_length : Int32) (v_bytes : Nat → Int32) : Nat → Int32 → Int32 → (Nat → Int32) → (Nat → Int32) → Option (Int32 × Int32 × Int32 × (Nat → Int32) × (Nat → Int32))
  | 0 => fun _ _ _ _ => none
  | n + 1 => f_X6_parse_C14 N v_length v_bytes (f_X6_parse_L14 N v_length v_bytes n)
set_option maxHeartbeats 4000000 in
set_option maxRecDepth 100000 in
theorem w_X6_parse_C14 {p : Program} {l : Launch} {e : Env} {s : State} {m : MethodId} {args : Array Value} {below : List Frame} {meth : Method} {c : Code} {D : va_G} {cI cM : ClassId} {A : Nat → Prop} {a_this a_this_bytes a_this_letter a_this_number : Nat} {N : Nat} {v_length : Int32} {v_bytes : Nat → Int32} {r : Int32} {o_at : Int32} {o_orders : Int32} {o_letter : Nat → Int32} {o_number : Nat → Int32} (C0 : g_cx cX6_parse (some .boolean) 1 RX6 wsX6_parse p s m args meth c) (hA : ∀ q, s.heap.size ≤ q → A q) (hK : va_K D vwCl (g_tys cI cM) s) (k14 : Int32 → Int32 → (Nat → Int32) → (Nat → Int32) → Option (Int32 × Int32 × Int32 × (Nat → Int32) × (Nat → Int32))) (hk14 : ∀ (v_at : Int32) (v_orders : Int32) (v_letter : Nat → Int32) (v_number : Nat → Int32) (H : Heap) (locs : List Loc) (ls : Array Slot), k14 v_at v_orders v_letter v_number = some (r, o_at, o_orders, o_letter, o_number) → va_P D vwCl (ww_X6_parse cI cM a_this a_this_bytes a_this_letter a_this_number v_length v_at v_orders v_bytes v_letter v_number) H → va_D A (ww_X6_parse cI cM a_this a_this_bytes a_this_letter a_this_number v_length v_at v_orders v_bytes v_letter v_number) → va_S A s.heap H locs → lv_has ls 1 [(0, .ref a_this)] → W p l e rm_X6_parse s m args below meth c H locs 0 0 (MQ below (g_QI D (g_tys cI cM) A (ww_X6_parse cI cM a_this a_this_bytes a_this_letter a_this_number v_length o_at o_orders v_bytes o_letter o_number) r) args s 0 0 A) (F0 m 14 ls [])) : ∀ (v_at : Int32) (v_orders : Int32) (v_letter : Nat → Int32) (v_number : Nat → Int32) (H : Heap) (locs : List Loc) (ls : Array Slot), f_X6_parse_C14 N v_length v_bytes k14 v_at v_orders v_letter v_number = some (r, o_at, o_orders, o_letter, o_number) → va_P D vwCl (ww_X6_parse cI cM a_this a_this_bytes a_this_letter a_this_number v_length v_at v_orders v_bytes v_letter v_number) H → va_D A (ww_X6_parse cI cM a_this a_this_bytes a_this_letter a_this_number v_length v_at v_orders v_bytes v_letter v_number) → va_S A s.heap H locs → lv_has ls 1 [(0, .ref a_this)] → W p l e rm_X6_parse s m args below meth c H locs 0 0 (MQ below (g_QI D (g_tys cI cM) A (ww_X6_parse cI cM a_this a_this_bytes a_this_letter a_this_number v_length o_at o_orders v_bytes o_letter o_number) r) args s 0 0 A) (F0 m 14 ls []) := by
  obtain ⟨hx, hb, hr, hml, hown, hts, hlocks⟩ := id C0
  intro v_at v_orders v_letter v_number H locs ls hf hP hD hS hl
  unfold f_X6_parse_C14 at hf
  refine lv_aload_n hx hb dX6_parse_14 rfl (lv_at hl 0 rfl) ?_
  refine va_get (D := D) (ci := 4) (v := .int v_orders) (C := RX6) (T := TX6) (N := 6) hx hb hts (fun _ h => (List.mem_cons_of_mem _ (List.mem_append_right _ h))) hown hK hP 0 rfl rfl 2 (by decide) (hts (.fieldLink RX6 25 "FloatBoxes$Text" "orders" "I") (List.mem_cons_of_mem _ (List.mem_append_left _ (List.mem_append_left _ (List.mem_of_getElem? (i := 1) rfl))))) (fun _ h9 => h9) rfl dX6_parse_15 ?_
  refine lv_bipush (v := 60) hx hb dX6_parse_18 (by decide) ?_
  refine lv_icmp_ge (tgt := 57) hx hb dX6_parse_20 (by decide) (fun c20 => ?_) (fun c20 => ?_)
  · replace hf := o_t c20 hf
    refine lv_iconst (v := 0) hx hb dX6_parse_57 (by decide) ?_
    obtain ⟨q0, y0⟩ := o_rp hf
    obtain ⟨q1, y1⟩ := o_rp y0
    obtain ⟨q2, y2⟩ := o_rp y1
    obtain ⟨q3, y3⟩ := o_rp y2
    have q4 := Option.some.inj y3
    subst q0 q1 q2 q3 q4
    exact g_zret hx hb hr hlocks (by decide) hP hD hK hS dX6_parse_58
  · replace hf := o_f c20 hf
    refine lv_aload_n hx hb dX6_parse_23 rfl (lv_at hl 0 rfl) ?_
    obtain ⟨r24, v_at_24, v_letter_24, v_number_24, hg24, hf⟩ := o_b4_go hf
    refine g_callVi (wn := (ww_X6_parse cI cM a_this a_this_bytes a_this_letter a_this_number v_length v_at_24 v_orders v_bytes v_letter_24 v_number_24)) (rest := []) ⟨hx, hb, hml, hown, hts⟩ (c_X6_readOrder l D cI cM a_this a_this_bytes a_this_letter a_this_number H.size v_length v_at v_orders v_bytes v_letter v_number hg24) (cwV 0 hts gX6_parse_X6_readOrder rfl rfl rfl (by decide +kernel) ⟨Nat.le_of_ble_eq_true rfl, Nat.le_of_ble_eq_true rfl⟩) hK hP hD hS hA [0, 1, 2, 3] [] [0, 1, 2, 3] rfl rfl rfl rfl rfl rfl (by decide) rfl rfl rfl hl.1 rfl (Nat.le_of_ble_eq_true rfl) dX6_parse_24 (fun H locs hP hD hS => ?_)
    refine lv_if_eq (tgt := 57) hx hb dX6_parse_27 (by decide) (fun c27 => ?_) (fun c27 => ?_)
    · replace hf := o_t c27 hf
      refine lv_iconst (v := 0) hx hb dX6_parse_57 (by decide) ?_
      obtain ⟨q0, y0⟩ := o_rp hf
      obtain ⟨q1, y1⟩ := o_rp y0
      obtain ⟨q2, y2⟩ := o_rp y1
      obtain ⟨q3, y3⟩ := o_rp y2
      have q4 := Option.some.inj y3
      subst q0 q1 q2 q3 q4
      exact g_zret hx hb hr hlocks (by decide) hP hD hK hS dX6_parse_58
    · replace hf := o_f c27 hf
      refine lv_aload_n hx hb dX6_parse_30 rfl (lv_at hl 0 rfl) ?_
      refine lv_dup hx hb dX6_parse_31 rfl ?_
      refine va_get (D := D) (ci := 4) (v := .int v_orders) (C := RX6) (T := TX6) (N := 6) hx hb hts (fun _ h => (List.mem_cons_of_mem _ (List.mem_append_right _ h))) hown hK hP 0 rfl rfl 2 (by decide) (hts (.fieldLink RX6 25 "FloatBoxes$Text" "orders" "I") (List.mem_cons_of_mem _ (List.mem_append_left _ (List.mem_append_left _ (List.mem_of_getElem? (i := 1) rfl))))) (fun _ h9 => h9) rfl dX6_parse_32 ?_
      refine lv_iconst (v := 1) hx hb dX6_parse_35 (by decide) ?_
      refine lv_iadd hx hb dX6_parse_36 ?_
      refine va_put (D := D) (ci := 4) (v := .int (v_orders + 1)) (ty := .int) (C := RX6) (T := TX6) (N := 6) hx hb hts (fun _ h => (List.mem_cons_of_mem _ (List.mem_append_right _ h))) tyX6 tyX6_ok nmX6 hown hK hP hD hS 0 rfl rfl 2 (by decide) (hts (.fieldLink RX6 25 "FloatBoxes$Text" "orders" "I") (List.mem_cons_of_mem _ (List.mem_append_left _ (List.mem_append_left _ (List.mem_of_getElem? (i := 1) rfl))))) (fun _ h9 => h9) rfl (by decide +kernel) rfl rfl (Nat.le_of_ble_eq_true rfl) dX6_parse_37 (fun H locs hP hD hS => ?_)
      replace hP : va_P D vwCl (ww_X6_parse cI cM a_this a_this_bytes a_this_letter a_this_number v_length v_at_24 (v_orders + 1) v_bytes v_letter_24 v_number_24) H := hP
      replace hD : va_D A (ww_X6_parse cI cM a_this a_this_bytes a_this_letter a_this_number v_length v_at_24 (v_orders + 1) v_bytes v_letter_24 v_number_24) := hD
      refine lv_aload_n hx hb dX6_parse_40 rfl (lv_at hl 0 rfl) ?_
      obtain ⟨v_at_41, hg41, hf⟩ := o_b1_go hf
      refine g_callVv (wn := (ww_X6_parse cI cM a_this a_this_bytes a_this_letter a_this_number v_length v_at_41 (v_orders + 1) v_bytes v_letter_24 v_number_24)) (rest := []) ⟨hx, hb, hml, hown, hts⟩ (c_X6_skipBlanks l D cI cM a_this a_this_bytes a_this_letter a_this_number H.size v_length v_at_24 (v_orders + 1) v_bytes hg41) (cwV 0 hts gX6_parse_X6_skipBlanks rfl rfl rfl (by decide +kernel) ⟨Nat.le_of_ble_eq_true rfl, Nat.le_of_ble_eq_true rfl⟩) hK hP hD hS hA [0, 1] [2, 3] [2, 3, 0, 1] rfl rfl rfl rfl rfl rfl (by decide) rfl rfl rfl hl.1 rfl (Nat.le_of_ble_eq_true rfl) dX6_parse_41 (fun H locs hP hD hS => ?_)
      refine lv_aload_n hx hb dX6_parse_44 rfl (lv_at hl 0 rfl) ?_
      refine va_get (D := D) (ci := 4) (v := .int v_at_41) (C := RX6) (T := TX6) (N := 6) hx hb hts (fun _ h => (List.mem_cons_of_mem _ (List.mem_append_right _ h))) hown hK hP 0 rfl rfl 1 (by decide) (hts (.fieldLink RX6 21 "FloatBoxes$Text" "at" "I") (List.mem_cons_of_mem _ (List.mem_append_left _ (List.mem_append_left _ (List.mem_of_getElem? (i := 0) rfl))))) (fun _ h9 => h9) rfl dX6_parse_45 ?_
      refine lv_aload_n hx hb dX6_parse_48 rfl (lv_at hl 0 rfl) ?_
      refine va_get (D := D) (ci := 4) (v := .int v_length) (C := RX6) (T := TX6) (N := 6) hx hb hts (fun _ h => (List.mem_cons_of_mem _ (List.mem_append_right _ h))) hown hK hP 0 rfl rfl 0 (by decide) (hts (.fieldLink RX6 35 "FloatBoxes$Text" "length" "I") (List.mem_cons_of_mem _ (List.mem_append_left _ (List.mem_append_left _ (List.mem_of_getElem? (i := 2) rfl))))) (fun _ h9 => h9) rfl dX6_parse_49 ?_
      refine lv_icmp_lt (tgt := 14) hx hb dX6_parse_52 (by decide) (fun c52 => ?_) (fun c52 => ?_)
      · replace hf := o_t c52 hf
        exact hk14 v_at_41 (v_orders + 1) v_letter_24 v_number_24 H locs ls hf hP hD hS (lv_sub hl [0] rfl)
      · replace hf := o_f c52 hf
        refine lv_iconst (v := 1) hx hb dX6_parse_55 (by decide) ?_
        obtain ⟨q0, y0⟩ := o_rp hf
        obtain ⟨q1, y1⟩ := o_rp y0
        obtain ⟨q2, y2⟩ := o_rp y1
        obtain ⟨q3, y3⟩ := o_rp y2
        have q4 := Option.some.inj y3
        subst q0 q1 q2 q3 q4
        exact g_zret hx hb hr hlocks (by decide) hP hD hK hS dX6_parse_56
set_option maxHeartbeats 4000000 in
set_option maxRecDepth 100000 in
theorem w_X6_parse_L14 {p : Program} {l : Launch} {e : Env} {s : State} {m : MethodId} {args : Array Value} {below : List Frame} {meth : Method} {c : Code} {D : va_G} {cI cM : ClassId} {A : Nat → Prop} {a_this a_this_bytes a_this_letter a_this_number : Nat} {N : Nat} {v_length : Int32} {v_bytes : Nat → Int32} {r : Int32} {o_at : Int32} {o_orders : Int32} {o_letter : Nat → Int32} {o_number : Nat → Int32} (C0 : g_cx cX6_parse (some .boolean) 1 RX6 wsX6_parse p s m args meth c) (hA : ∀ q, s.heap.size ≤ q → A q) (hK : va_K D vwCl (g_tys cI cM) s) : ∀ n : Nat, ∀ (v_at : Int32) (v_orders : Int32) (v_letter : Nat → Int32) (v_number : Nat → Int32) (H : Heap) (locs : List Loc) (ls : Array Slot), f_X6_parse_L14 N v_length v_bytes n v_at v_orders v_letter v_number = some (r, o_at, o_orders, o_letter, o_number) → va_P D vwCl (ww_X6_parse cI cM a_this a_this_bytes a_this_letter a_this_number v_length v_at v_orders v_bytes v_letter v_number) H → va_D A (ww_X6_parse cI cM a_this a_this_bytes a_this_letter a_this_number v_length v_at v_orders v_bytes v_letter v_number) → va_S A s.heap H locs → lv_has ls 1 [(0, .ref a_this)] → W p l e rm_X6_parse s m args below meth c H locs 0 0 (MQ below (g_QI D (g_tys cI cM) A (ww_X6_parse cI cM a_this a_this_bytes a_this_letter a_this_number v_length o_at o_orders v_bytes o_letter o_number) r) args s 0 0 A) (F0 m 14 ls []) := by
  intro n
  induction n with
  | zero =>
    intro v_at v_orders v_letter v_number H locs ls hf
    exact absurd hf (fun h => nomatch h)
  | succ n ih =>
    intro v_at v_orders v_letter v_number H locs ls hf
    exact w_X6_parse_C14 C0 hA hK _ ih v_at v_orders v_letter v_number H locs ls hf
def f_X6_parse (N : Nat) (v_length : Int32) (v_bytes : Nat → Int32) (v_at : Int32) (v_orders : Int32) (v_letter : Nat → Int32) (v_number : Nat → Int32) : Option (Int32 × Int32 × Int32 × (Nat → Int32) × (Nat → Int32)) :=
  o_b1 (f_X6_skipBlanks N v_length v_bytes 0) (fun (v_at_11 : Int32) =>
  f_X6_parse_L14 N v_length v_bytes N v_at_11 0 v_letter v_number)
set_option maxHeartbeats 4000000 in
set_option maxRecDepth 100000 in
theorem w_X6_parse_B0 {p : Program} {l : Launch} {e : Env} {s : State} {m : MethodId} {args : Array Value} {below : List Frame} {meth : Method} {c : Code} {D : va_G} {cI cM : ClassId} {A : Nat → Prop} {a_this a_this_bytes a_this_letter a_this_number : Nat} {N : Nat} {v_length : Int32} {v_bytes : Nat → Int32} {r : Int32} {o_at : Int32} {o_orders : Int32} {o_letter : Nat → Int32} {o_number : Nat → Int32} (C0 : g_cx cX6_parse (some .boolean) 1 RX6 wsX6_parse p s m args meth c) (hA : ∀ q, s.heap.size ≤ q → A q) (hK : va_K D vwCl (g_tys cI cM) s) : ∀ (v_at : Int32) (v_orders : Int32) (v_letter : Nat → Int32) (v_number : Nat → Int32) (H : Heap) (locs : List Loc) (ls : Array Slot), f_X6_parse N v_length v_bytes v_at v_orders v_letter v_number = some (r, o_at, o_orders, o_letter, o_number) → va_P D vwCl (ww_X6_parse cI cM a_this a_this_bytes a_this_letter a_this_number v_length v_at v_orders v_bytes v_letter v_number) H → va_D A (ww_X6_parse cI cM a_this a_this_bytes a_this_letter a_this_number v_length v_at v_orders v_bytes v_letter v_number) → va_S A s.heap H locs → lv_has ls 1 [(0, .ref a_this)] → W p l e rm_X6_parse s m args below meth c H locs 0 0 (MQ below (g_QI D (g_tys cI cM) A (ww_X6_parse cI cM a_this a_this_bytes a_this_letter a_this_number v_length o_at o_orders v_bytes o_letter o_number) r) args s 0 0 A) (F0 m 0 ls []) := by
  obtain ⟨hx, hb, hr, hml, hown, hts, hlocks⟩ := id C0
  intro v_at v_orders v_letter v_number H locs ls hf hP hD hS hl
  unfold f_X6_parse at hf
  refine lv_aload_n hx hb dX6_parse_0 rfl (lv_at hl 0 rfl) ?_
  refine lv_iconst (v := 0) hx hb dX6_parse_1 (by decide) ?_
  refine va_put (D := D) (ci := 4) (v := .int 0) (ty := .int) (C := RX6) (T := TX6) (N := 6) hx hb hts (fun _ h => (List.mem_cons_of_mem _ (List.mem_append_right _ h))) tyX6 tyX6_ok nmX6 hown hK hP hD hS 0 rfl rfl 1 (by decide) (hts (.fieldLink RX6 21 "FloatBoxes$Text" "at" "I") (List.mem_cons_of_mem _ (List.mem_append_left _ (List.mem_append_left _ (List.mem_of_getElem? (i := 0) rfl))))) (fun _ h9 => h9) rfl (by decide +kernel) rfl rfl (Nat.le_of_ble_eq_true rfl) dX6_parse_2 (fun H locs hP hD hS => ?_)
  replace hP : va_P D vwCl (ww_X6_parse cI cM a_this a_this_bytes a_this_letter a_this_number v_length 0 v_orders v_bytes v_letter v_number) H := hP
  replace hD : va_D A (ww_X6_parse cI cM a_this a_this_bytes a_this_letter a_this_number v_length 0 v_orders v_bytes v_letter v_number) := hD
  refine lv_aload_n hx hb dX6_parse_5 rfl (lv_at hl 0 rfl) ?_
  refine lv_iconst (v := 0) hx hb dX6_parse_6 (by decide) ?_
  refine va_put (D := D) (ci := 4) (v := .int 0) (ty := .int) (C := RX6) (T := TX6) (N := 6) hx hb hts (fun _ h => (List.mem_cons_of_mem _ (List.mem_append_right _ h))) tyX6 tyX6_ok nmX6 hown hK hP hD hS 0 rfl rfl 2 (by decide) (hts (.fieldLink RX6 25 "FloatBoxes$Text" "orders" "I") (List.mem_cons_of_mem _ (List.mem_append_left _ (List.mem_append_left _ (List.mem_of_getElem? (i := 1) rfl))))) (fun _ h9 => h9) rfl (by decide +kernel) rfl rfl (Nat.le_of_ble_eq_true rfl) dX6_parse_7 (fun H locs hP hD hS => ?_)
  replace hP : va_P D vwCl (ww_X6_parse cI cM a_this a_this_bytes a_this_letter a_this_number v_length 0 0 v_bytes v_letter v_number) H := hP
  replace hD : va_D A (ww_X6_parse cI cM a_this a_this_bytes a_this_letter a_this_number v_length 0 0 v_bytes v_letter v_number) := hD
  refine lv_aload_n hx hb dX6_parse_10 rfl (lv_at hl 0 rfl) ?_
  obtain ⟨v_at_11, hg11, hf⟩ := o_b1_go hf
  refine g_callVv (wn := (ww_X6_parse cI cM a_this a_this_bytes a_this_letter a_this_number v_length v_at_11 0 v_bytes v_letter v_number)) (rest := []) ⟨hx, hb, hml, hown, hts⟩ (c_X6_skipBlanks l D cI cM a_this a_this_bytes a_this_letter a_this_number H.size v_length 0 0 v_bytes hg11) (cwV 0 hts gX6_parse_X6_skipBlanks rfl rfl rfl (by decide +kernel) ⟨Nat.le_of_ble_eq_true rfl, Nat.le_of_ble_eq_true rfl⟩) hK hP hD hS hA [0, 1] [2, 3] [2, 3, 0, 1] rfl rfl rfl rfl rfl rfl (by decide) rfl rfl rfl hl.1 rfl (Nat.le_of_ble_eq_true rfl) dX6_parse_11 (fun H locs hP hD hS => ?_)
  exact w_X6_parse_L14 C0 hA hK N v_at_11 0 v_letter v_number H locs ls hf hP hD hS (lv_sub hl [0] rfl)
set_option maxHeartbeats 4000000 in
set_option maxRecDepth 100000 in
theorem c_X6_parse (l : Launch) (D : va_G) (cI cM : ClassId) (a_this a_this_bytes a_this_letter a_this_number : Nat) (sz : Nat) (v_length : Int32) (v_at : Int32) (v_orders : Int32) (v_bytes : Nat → Int32) (v_letter : Nat → Int32) (v_number : Nat → Int32) {N : Nat} {r : Int32} {o_at : Int32} {o_orders : Int32} {o_letter : Nat → Int32} {o_number : Nat → Int32} (hf : f_X6_parse N v_length v_bytes v_at v_orders v_letter v_number = some (r, o_at, o_orders, o_letter, o_number)) : Met l yX6_parse wsX6_parse rm_X6_parse (g_Pc D (g_tys cI cM) (ww_X6_parse cI cM a_this a_this_bytes a_this_letter a_this_number v_length v_at v_orders v_bytes v_letter v_number) sz [.ref a_this]) (g_QI D (g_tys cI cM) (va_A (ww_X6_parse cI cM a_this a_this_bytes a_this_letter a_this_number v_length v_at v_orders v_bytes v_letter v_number) sz) (ww_X6_parse cI cM a_this a_this_bytes a_this_letter a_this_number v_length o_at o_orders v_bytes o_letter o_number) r) 0 0 (va_A (ww_X6_parse cI cM a_this a_this_bytes a_this_letter a_this_number v_length v_at v_orders v_bytes v_letter v_number) sz) := by
  refine g_met (cc := cX6_parse) (maxL := 1) (ret := (some .boolean)) (Qc := fun D A => g_QI D (g_tys cI cM) A (ww_X6_parse cI cM a_this a_this_bytes a_this_letter a_this_number v_length o_at o_orders v_bytes o_letter o_number) r) (by decide) rfl ?_
  intro p e s m below meth c A C0 hA hK hP hD
  have hl := lv_entry ([.ref a_this]) (n := 1) (Nat.le_of_ble_eq_true rfl)
  rw [lg_entry_eq]
  generalize (lg_sl ([.ref a_this]) ++ List.replicate (1 - (lg_sl ([.ref a_this])).length) Slot.unset).toArray = ls at hl ⊢
  have hl : lv_has ls 1 [(0, .ref a_this)] := hl
  exact w_X6_parse_B0 C0 hA hK v_at v_orders v_letter v_number s.heap [] ls hf hP hD va_S.rf (lv_sub hl [0] rfl)
