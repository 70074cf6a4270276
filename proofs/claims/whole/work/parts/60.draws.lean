/-! ===== the two calls of the reference that may draw a NaN: rest, narrow ===== -/
theorem cmp32 (t : UInt32) : Op.cmpValue (FP.fcmp t t) .l = 0 ↔ ¬ isNaN32 t = true := by
  have hlt : t.toNat < 4294967296 := t.toNat_lt
  have hn : isNaN32 t = true ↔ (t.toNat / 8388608 % 256 = 255 ∧ ¬ t.toNat % 8388608 = 0) := by
    rw [isNaN32_iff, show (0x7fffffff : Nat) = 2 ^ 31 - 1 from rfl, Nat.and_two_pow_sub_one_eq_mod]
    omega
  have hd : FP.Core.decode FP.Core.b32 t.toNat = if t.toNat / 8388608 % 256 = 255 then (if t.toNat % 8388608 = 0 then .inf (FP.Core.fieldS FP.Core.b32 t.toNat) else .nan) else if t.toNat / 8388608 % 256 = 0 then .fin (FP.Core.fieldS FP.Core.b32 t.toNat) (t.toNat % 8388608) (-149) else .fin (FP.Core.fieldS FP.Core.b32 t.toNat) (8388608 + t.toNat % 8388608) (-149 + ((t.toNat / 8388608 % 256 : Nat) - 1 : Int)) := rfl
  have hc : FP.fcmp t t = FP.Core.order (FP.Core.decode FP.Core.b32 t.toNat) (FP.Core.decode FP.Core.b32 t.toNat) := rfl
  rw [hn]
  by_cases g1 : t.toNat / 8388608 % 256 = 255
  · by_cases g2 : t.toNat % 8388608 = 0
    · rw [hc, ord_self (by rw [hd, if_pos g1, if_pos g2]; intro q; cases q)]
      exact ⟨fun _ q => q.2 g2, fun _ => rfl⟩
    · rw [hc, hd, if_pos g1, if_neg g2]
      exact ⟨fun q => absurd q (by decide), fun q => absurd ⟨g1, g2⟩ q⟩
  · rw [hc, ord_self (by
      rw [hd, if_neg g1]
      split
      · intro q; cases q
      · intro q; cases q)]
    exact ⟨fun _ q => g1 q.1, fun _ => rfl⟩
theorem cmp64 (t : UInt64) : Op.cmpValue (FP.dcmp t t) .l = 0 ↔ ¬ isNaN64 t = true := by
  have hlt : t.toNat < 2 ^ 64 := t.toNat_lt
  have hn : isNaN64 t = true ↔ (dE t.toNat = 2047 ∧ ¬ dT t.toNat = 0) := by
    rw [isNaN64_iff, show (0x7fffffffffffffff : Nat) = 2 ^ 63 - 1 from rfl, Nat.and_two_pow_sub_one_eq_mod]
    unfold dE dT
    omega
  have hc : FP.dcmp t t = FP.Core.order (FP.Core.decode FP.Core.b64 t.toNat) (FP.Core.decode FP.Core.b64 t.toNat) := rfl
  rw [hn]
  by_cases g : dE t.toNat = 2047 ∧ ¬ dT t.toNat = 0
  · rw [hc, dec64 hlt, if_pos g.1, if_neg g.2]
    exact ⟨fun q => absurd q (by decide), fun q => absurd g q⟩
  · have := y_dord hlt g
    rw [UInt64.ofNat_toNat] at this
    rw [this]
    exact ⟨fun _ => g, fun _ => rfl⟩
/-- Double.longBitsToDouble of a signalling NaN: it draws whether the copy is quiet -/
theorem o_l2dS {p : Program} {e : Env} {below : List Frame} {s target : State} {g : JFrame} {c : Code} {m : MethodId} {k : Class} {meth : Method} {ig : Instr} {len : Nat} (h : At s g.method c below) (acts : List Action)
    (N : NativeOf s.vm m k meth "java/lang/Double" "longBitsToDouble" "(J)D" true [.long]) (v : Int64)
    (hroom : e.platform.stackFull (((s.setTop g).threads[(s.setTop g).cur]?).getD { frames := [] }) (s.setTop g).frames (nativeFrameWords "java/lang/Double" "longBitsToDouble" 2) = false)
    (hv : (v.toUInt64 &&& 0x7fffffffffffffff > 0x7ff0000000000000 && v.toUInt64 &&& 0x0008000000000000 == 0) = true)
    (hdg : decode c.code g.pc = .ok (ig, len))
    (hrest : Steps p.tables e below ((s.setDrawn (s.drawn.next (.named "NaN.copy"))).setTop { g with pc := g.pc + len, stack := .double (if e.choices (.named "NaN.copy") (s.drawn.count (.named "NaN.copy")) % 2 == 0 then v.toUInt64 else v.toUInt64 ||| 0x0008000000000000) :: g.stack }) target) :
    Steps p.tables e below (doInvoke e (s.setTop g) acts m #[.long v]).1 target := by
  have hseen : seenByNative meth #[.long v] = #[.long v] := by simp [seenByNative, N.static, N.sig, narrow]
  refine Steps.nativeEnds (row := Native.java_lang_Float.bits.rowLongBitsToDouble) (v := some (.double (if e.choices (.named "NaN.copy") (s.drawn.count (.named "NaN.copy")) % 2 == 0 then v.toUInt64 else v.toUInt64 ||| 0x0008000000000000))) (T := fun z => z.setDrawn (z.drawn.next (.named "NaN.copy"))) h acts N.cls N.meth N.boot N.native N.noCode N.noLock
    (by rw [N.className, N.name, N.desc]; exact longBitsToDouble_row p) (by rw [N.className, N.name]; exact hroom) (fun _ => rfl) rfl (fun _ => h.code) ?_ hdg hrest
  intro Q hq
  rw [hseen] at hq ⊢
  rw [Native.java_lang_Float.bits.longBitsToDouble_on]
  simp only [hv, if_true, wp_bind', choose, wp_choose, W.mark, wp_pure']
  exact hq _ _
section GD
variable {p : Program} {l : Launch} {e : Env} {R : Room} {s : State} {m : MethodId} {args : Array Value} {below : List Frame} {meth : Method} {c : Code} {H : Heap} {locs : List Loc} {cells slots : Nat} {Q : State → Prop}
variable {cc : ByteArray} {pc : Nat} {ls : Array Slot} {rest : List Value} {D : va_G} {A : Nat → Prop} {tys : List (ClassId × FieldType)} {ws wc wo wn : va_W} {cs : List Choice}
theorem o_l2d_any {d0 : Drawn} (hd0 : s.drawn.sameBut d0 cs) (hcs : Choice.named "NaN.copy" ∈ cs) (hexec : p.tables.exec = Jvm.exec) (hb : c.code = cc) (hml : c.maxLocals = ls.size) {own : String} {index : Nat} (hown : s.vm.findClass own = some m.cls) (hlink : (Cond.methodLink own index ⟨"java/lang/Double", "longBitsToDouble", "(J)D"⟩).before args (s.setDrawn d0) = true) (hnat : (Cond.native ⟨"java/lang/Double", "longBitsToDouble", "(J)D"⟩).before args (s.setDrawn d0) = true) (hstat : (Cond.static ⟨"java/lang/Double", "longBitsToDouble", "(J)D"⟩).before args (s.setDrawn d0) = true) (hinit : (Cond.initialized "java/lang/Double").before args (s.setDrawn d0) = true) {b : Int64} (hv : vn_snl2d b = true)
    (hframes : 1 ≤ R.frames) (hlocals : (rest.map fun v => v.category).sum + 15 ≤ R.locals) (hdg : decode cc pc = .ok (.invokestatic index, 3))
    (k : ∀ (r : UInt64) (d' : Drawn), isNaN64 r = true → s.drawn.sameBut d' cs → W p l e R (s.setDrawn d') m args below meth c H locs cells slots Q (F0 m (pc + 3) ls (.double r :: rest))) : W p l e R (s.setDrawn d0) m args below meth c H locs cells slots Q (F0 m pc ls (.long b :: rest)) := by
  intro T hT X
  obtain ⟨r, kS, methS, hnS, hmS, hkS, N⟩ := NativeOf.of_static hnat hstat (ps := [.long]) (ret := some .double) (by decide +kernel)
  have hinitS : kS.init = .initialized := Cond.initialized_spec (findClass_of_methodNamed hnS) hkS hinit
  obtain ⟨vm', X', step⟩ := X.invokestatic hexec hown hlink hnS hmS N.static hkS hinitS (by decide) (g := F0 m pc ls (.long b :: rest)) rfl (argsL := [.long b]) (rest := rest) (by rw [N.sig]; rfl) rfl (by rw [hb]; exact hdg)
  obtain ⟨kS', N'⟩ := N.alike X'.warmed.alike
  have hde : (T.setVm vm').drawn = d0 := X'.drawn_eq
  have hw : nativeFrameWords "java/lang/Double" "longBitsToDouble" 2 = 4 := by decide
  have hnn : isNaN64 b.toUInt64 = true := by
    unfold vn_snl2d at hv
    exact (Bool.and_eq_true_iff.mp hv).1
  have hnan : isNaN64 (if e.choices (.named "NaN.copy") ((T.setVm vm').drawn.count (.named "NaN.copy")) % 2 == 0 then b.toUInt64 else b.toUInt64 ||| 0x0008000000000000) = true := by
    split
    · exact hnn
    · exact isNaN64_or_left hnn
  obtain ⟨t, a1, b1⟩ := k _ ((T.setVm vm').drawn.next (.named "NaN.copy")) hnan (by
    rw [hde]
    exact Drawn.sameBut.trans hd0 (Drawn.sameBut.mono (Drawn.next_named d0 "NaN.copy") (fun c hc => by
      simp only [List.mem_cons, List.not_mem_nil, or_false] at hc
      rw [hc]; exact hcs))) ((T.setVm vm').setDrawn ((T.setVm vm').drawn.next (.named "NaN.copy"))) hT (X'.drew _)
  exact ⟨t, step t (fun acts => o_l2dS (g := { F0 m pc ls (.long b :: rest) with stack := rest }) (ig := .invokestatic index) (len := 3) X'.here acts N' b (X'.notFull (g := { F0 m pc ls (.long b :: rest) with stack := rest }) (by rw [hml]) (vars := nativeFrameWords "java/lang/Double" "longBitsToDouble" 2) hframes (by show 2 * 0 + (rest.map fun v => v.category).sum + (nativeFrameWords "java/lang/Double" "longBitsToDouble" 2 + 11) ≤ R.locals; rw [hw]; omega)) hv (by rw [hb]; exact hdg) a1), b1⟩
variable {y : MethodName} {maxL : Nat} {ret : Option FieldType} {wsy ws' : List Cond} {rm : Room}
theorem g_cxD {Ts : List Cond} {own : String} (C0 : g_cx cc ret maxL own Ts p s m args meth c) (d : Drawn) : g_cx cc ret maxL own Ts p (s.setDrawn d) m args meth c := by
  obtain ⟨hx, hb, hr, hml, hown, hts, hlocks⟩ := C0
  exact ⟨hx, hb, hr, hml, hown, dr_words hts d, hlocks⟩
/-- the beginning of a contract with a world, of a method that may draw -/
theorem g_metD {wi : va_W} {Qc : va_G → (Nat → Prop) → Array Value → State → Outcome → State → Prop} {sz : Nat} {av : List Value} (hy : plainName y.cls = true) (hw : wsy = Cond.code y cc maxL ret :: ws')
    (body : ∀ (p : Program) (e : Env) (s : State) (m : MethodId) (below : List Frame) (meth : Method) (c : Code) (A : Nat → Prop), g_cx cc ret maxL y.cls wsy p s m av.toArray meth c → (∀ q, s.heap.size ≤ q → A q) → va_K D vwCl tys s → va_P D vwCl wi s.heap → va_D A wi → s.drawn.sameBut s.drawn cs →
      W p l e rm (s.setDrawn s.drawn) m av.toArray below meth c s.heap [] 0 0 (MQD cs below (Qc D A) av.toArray s 0 0 A) (entryFrame m av.toArray maxL)) : MetD cs l y wsy rm (g_Pc D tys wi sz av) (Qc D (va_A wi sz)) 0 0 (va_A wi sz) := by
  refine MetD.ofW (cc := cc) (maxL := maxL) (ret := ret) hy hw ?_
  intro p e s m args below meth c s₁ B hml hv hd0
  obtain ⟨rfl, hsz, hP, hK, hD0⟩ := hv
  subst hsz
  exact body p e s m below meth c _ ⟨B.exec, B.bytes, B.returns, hml, findClass_of_methodNamed B.named, atoms_spec (ws := wsy) B.pre, B.notSynchronized⟩ (fun q h => Or.inr h) hK hP hD0.self hd0
end GD

/-! FloatBoxesModel.rest(II)I -/
abbrev rm_X8_rest : Room := { frames := 3, cells := 0, slots := 0, locals := 64 }
abbrev ww_X8_rest (cI cM : ClassId) (a_this a_this_all a_this_past a_this_refused a_this_box a_this_row a_this_text a_this_numbers a_this_before : Nat) (v_states : Int32) (v_empty : Int32) (v_cut : Int32) (v_rowMany : Int32) (v_taken : Int32) (v_found : Int32) (v_textLong : Int32) (v_at : Int32) (v_stopped : Int32) (v_refused : Nat → Int32) : va_W := [(a_this, .inr (6, [.ref a_this_all, .ref a_this_past, .int v_states, .ref a_this_refused, .ref a_this_box, .int v_empty, .int v_cut, .ref a_this_row, .int v_rowMany, .int v_taken, .int v_found, .ref a_this_text, .int v_textLong, .int v_at, .ref a_this_numbers, .int v_stopped, .ref a_this_before])), (a_this_refused, .inl (cI, 3, .inl v_refused))]
set_option maxHeartbeats 4000000 in
set_option maxRecDepth 100000 in
theorem w_X8_rest_B14 {p : Program} {l : Launch} {e : Env} {s : State} {m : MethodId} {args : Array Value} {below : List Frame} {meth : Method} {c : Code} {D : va_G} {cI cM : ClassId} {A : Nat → Prop} {a_this a_this_all a_this_past a_this_refused a_this_box a_this_row a_this_text a_this_numbers a_this_before : Nat} {v_states : Int32} {v_empty : Int32} {v_cut : Int32} {v_rowMany : Int32} {v_taken : Int32} {v_found : Int32} {v_textLong : Int32} {v_at : Int32} {v_stopped : Int32} {r : Int32} {o_refused : Nat → Int32} (C0 : g_cx cX8_rest (some .int) 4 RX8 wsX8_rest p s m args meth c) (hA : ∀ q, s.heap.size ≤ q → A q) (hK : va_K D vwCl (g_tys cI cM) s) : ∀ (v_refused : Nat → Int32) (H : Heap) (locs : List Loc) (ls : Array Slot), f_X8_rest_B14 v_refused = some (r, o_refused) → va_P D vwCl (ww_X8_rest cI cM a_this a_this_all a_this_past a_this_refused a_this_box a_this_row a_this_text a_this_numbers a_this_before v_states v_empty v_cut v_rowMany v_taken v_found v_textLong v_at v_stopped v_refused) H → va_D A (ww_X8_rest cI cM a_this a_this_all a_this_past a_this_refused a_this_box a_this_row a_this_text a_this_numbers a_this_before v_states v_empty v_cut v_rowMany v_taken v_found v_textLong v_at v_stopped v_refused) → va_S A s.heap H locs → lv_has ls 4 [(0, .ref a_this)] → W p l e rm_X8_rest s m args below meth c H locs 0 0 (MQ below (g_QI D (g_tys cI cM) A (ww_X8_rest cI cM a_this a_this_all a_this_past a_this_refused a_this_box a_this_row a_this_text a_this_numbers a_this_before v_states v_empty v_cut v_rowMany v_taken v_found v_textLong v_at v_stopped o_refused) r) args s 0 0 A) (F0 m 14 ls []) := by
  obtain ⟨hx, hb, hr, hml, hown, hts, hlocks⟩ := id C0
  intro v_refused H locs ls hf hP hD hS hl
  unfold f_X8_rest_B14 at hf
  refine lv_aload_n hx hb dX8_rest_14 rfl (lv_at hl 0 rfl) ?_
  refine lv_ldc (v := (-2139095050)) hx hb hown (hts (.constant RX8 42 (-2139095050)) (List.mem_cons_of_mem _ (List.mem_append_left _ (List.mem_append_left _ (List.mem_of_getElem? (i := 0) rfl))))) dX8_rest_15 ?_
  obtain ⟨r17, v_refused_17, hg17, hf⟩ := o_b2_go hf
  refine g_callVi (wn := (ww_X8_rest cI cM a_this a_this_all a_this_past a_this_refused a_this_box a_this_row a_this_text a_this_numbers a_this_before v_states v_empty v_cut v_rowMany v_taken v_found v_textLong v_at v_stopped v_refused_17)) (rest := []) ⟨hx, hb, hml, hown, hts⟩ (c_X8_refuses l D cI cM a_this a_this_all a_this_past a_this_refused a_this_box a_this_row a_this_text a_this_numbers a_this_before H.size v_states v_empty v_cut v_rowMany v_taken v_found v_textLong v_at v_stopped v_refused hg17) (cwV 1 hts gX8_rest_X8_refuses rfl rfl rfl (by decide +kernel) ⟨Nat.le_of_ble_eq_true rfl, Nat.le_of_ble_eq_true rfl⟩) hK hP hD hS hA [0, 1] [] [0, 1] rfl rfl rfl rfl rfl rfl (by decide) rfl rfl rfl hl.1 rfl (Nat.le_of_ble_eq_true rfl) dX8_rest_17 (fun H locs hP hD hS => ?_)
  obtain ⟨q0, y0⟩ := o_rp hf
  have q1 := Option.some.inj y0
  subst q0 q1
  exact g_iret hx hb hr hlocks hP hD hK hS dX8_rest_20

set_option maxHeartbeats 4000000 in
set_option maxRecDepth 100000 in
theorem w_X8_rest_B30 {p : Program} {l : Launch} {e : Env} {s : State} {m : MethodId} {args : Array Value} {below : List Frame} {meth : Method} {c : Code} {D : va_G} {cI cM : ClassId} {A : Nat → Prop} {a_this a_this_all a_this_past a_this_refused a_this_box a_this_row a_this_text a_this_numbers a_this_before : Nat} {v_states : Int32} {v_empty : Int32} {v_cut : Int32} {v_rowMany : Int32} {v_taken : Int32} {v_found : Int32} {v_textLong : Int32} {v_at : Int32} {v_stopped : Int32} {r : Int32} {o_refused : Nat → Int32} (C0 : g_cx cX8_rest (some .int) 4 RX8 wsX8_rest p s m args meth c) (hA : ∀ q, s.heap.size ≤ q → A q) (hK : va_K D vwCl (g_tys cI cM) s) : ∀ (v_refused : Nat → Int32) (x1 : Int32) (x2 : Int32) (t0 t30 : UInt32) (H : Heap) (locs : List Loc) (ls : Array Slot), alike32 t30 t0 = true → (if isNaN32 t0 = true then o_b2 (f_X8_refuses v_refused (-2139095051)) (fun (r : Int32) (w : Nat → Int32) => some (r, w)) else o_b1 (f_X8_place t0) (fun (r : Int32) => some (r, v_refused))) = some (r, o_refused) → va_P D vwCl (ww_X8_rest cI cM a_this a_this_all a_this_past a_this_refused a_this_box a_this_row a_this_text a_this_numbers a_this_before v_states v_empty v_cut v_rowMany v_taken v_found v_textLong v_at v_stopped v_refused) H → va_D A (ww_X8_rest cI cM a_this a_this_all a_this_past a_this_refused a_this_box a_this_row a_this_text a_this_numbers a_this_before v_states v_empty v_cut v_rowMany v_taken v_found v_textLong v_at v_stopped v_refused) → va_S A s.heap H locs → lv_has ls 4 [(0, .ref a_this), (1, .int x1), (2, .int x2)] → W p l e rm_X8_rest s m args below meth c H locs 0 0 (MQ below (g_QI D (g_tys cI cM) A (ww_X8_rest cI cM a_this a_this_all a_this_past a_this_refused a_this_box a_this_row a_this_text a_this_numbers a_this_before v_states v_empty v_cut v_rowMany v_taken v_found v_textLong v_at v_stopped o_refused) r) args s 0 0 A) (F0 m 30 ls [.float t30]) := by
  obtain ⟨hx, hb, hr, hml, hown, hts, hlocks⟩ := id C0
  intro v_refused x1 x2 t0 t30 H locs ls hal hf hP hD hS hl
  have hcase : (isNaN32 t0 = true ∧ isNaN32 t30 = true) ∨ (¬ isNaN32 t0 = true ∧ t30 = t0) := by
    unfold alike32 at hal
    rcases Bool.or_eq_true _ _ ▸ hal with q | q
    · have q := of_decide_eq_true q
      by_cases g : isNaN32 t0 = true
      · exact Or.inl ⟨g, by rw [q]; exact g⟩
      · exact Or.inr ⟨g, q⟩
    · have q := Bool.and_eq_true_iff.mp q
      exact Or.inl ⟨q.2, q.1⟩
  refine lv_fstore_n (lv' := [(3, .float t30), (0, .ref a_this), (1, .int x1), (2, .int x2)]) hx hb dX8_rest_30 rfl hl (by decide) rfl (fun ls hl => ?_)
  refine lv_fload_n hx hb dX8_rest_31 rfl (lv_at hl 0 rfl) ?_
  refine lv_fload_n hx hb dX8_rest_32 rfl (lv_at hl 0 rfl) ?_
  refine lv_fcmp hx hb dX8_rest_33 ?_
  refine lv_if_eq (tgt := 47) hx hb dX8_rest_34 (by decide) (fun c34 => ?_) (fun c34 => ?_)
  · have hne := (cmp32 t30).mp c34
    obtain ⟨g1, rfl⟩ : ¬ isNaN32 t0 = true ∧ t30 = t0 := hcase.resolve_left (fun q => hne q.2)
    rw [if_neg g1] at hf
    refine lv_fload_n hx hb dX8_rest_47 rfl (lv_at hl 0 rfl) ?_
    obtain ⟨r48, hg48, hf⟩ := o_b1_go hf
    refine g_callSi (rest := []) ⟨hx, hb, hml, hown, hts⟩ (c_X8_place l hg48) (va_cwS 1 hts gX8_rest_X8_place rfl rfl rfl (by decide +kernel) ⟨Nat.le_of_ble_eq_true rfl, Nat.le_of_ble_eq_true rfl⟩) rfl hl.1 rfl (Nat.le_of_ble_eq_true rfl) dX8_rest_48 ?_
    obtain ⟨q0, y0⟩ := o_rp hf
    have q1 := Option.some.inj y0
    subst q0 q1
    exact g_iret hx hb hr hlocks hP hD hK hS dX8_rest_51
  · have hne : isNaN32 t30 = true := Classical.byContradiction fun q => c34 ((cmp32 t30).mpr q)
    have g1 : isNaN32 t0 = true := by
      rcases hcase with q | q
      · exact q.1
      · rw [← q.2]; exact hne
    rw [if_pos g1] at hf
    refine lv_aload_n hx hb dX8_rest_37 rfl (lv_at hl 1 rfl) ?_
    refine lv_ldcw (v := (-2139095051)) hx hb hown (hts (.constant RX8 264 (-2139095051)) (List.mem_cons_of_mem _ (List.mem_append_left _ (List.mem_append_left _ (List.mem_of_getElem? (i := 1) rfl))))) dX8_rest_38 ?_
    obtain ⟨r41, v_refused_41, hg41, hf⟩ := o_b2_go hf
    refine g_callVi (wn := (ww_X8_rest cI cM a_this a_this_all a_this_past a_this_refused a_this_box a_this_row a_this_text a_this_numbers a_this_before v_states v_empty v_cut v_rowMany v_taken v_found v_textLong v_at v_stopped v_refused_41)) (rest := []) ⟨hx, hb, hml, hown, hts⟩ (c_X8_refuses l D cI cM a_this a_this_all a_this_past a_this_refused a_this_box a_this_row a_this_text a_this_numbers a_this_before H.size v_states v_empty v_cut v_rowMany v_taken v_found v_textLong v_at v_stopped v_refused hg41) (cwV 1 hts gX8_rest_X8_refuses rfl rfl rfl (by decide +kernel) ⟨Nat.le_of_ble_eq_true rfl, Nat.le_of_ble_eq_true rfl⟩) hK hP hD hS hA [0, 1] [] [0, 1] rfl rfl rfl rfl rfl rfl (by decide) rfl rfl rfl hl.1 rfl (Nat.le_of_ble_eq_true rfl) dX8_rest_41 (fun H locs hP hD hS => ?_)
    refine lv_goto (tgt := 51) hx hb dX8_rest_44 (by decide) ?_
    obtain ⟨q0, y0⟩ := o_rp hf
    have q1 := Option.some.inj y0
    subst q0 q1
    exact g_iret hx hb hr hlocks hP hD hK hS dX8_rest_51
set_option maxHeartbeats 4000000 in
set_option maxRecDepth 100000 in
theorem c_X8_rest (l : Launch) (D : va_G) (cI cM : ClassId) (a_this a_this_all a_this_past a_this_refused a_this_box a_this_row a_this_text a_this_numbers a_this_before : Nat) (sz : Nat) (v_states : Int32) (v_empty : Int32) (v_cut : Int32) (v_rowMany : Int32) (v_taken : Int32) (v_found : Int32) (v_textLong : Int32) (v_at : Int32) (v_stopped : Int32) (v_refused : Nat → Int32) {x1 : Int32} {x2 : Int32} {r : Int32} {o_refused : Nat → Int32} (hf : f_X8_rest v_refused x1 x2 = some (r, o_refused)) : MetD lw_cs l yX8_rest wsX8_rest rm_X8_rest (g_Pc D (g_tys cI cM) (ww_X8_rest cI cM a_this a_this_all a_this_past a_this_refused a_this_box a_this_row a_this_text a_this_numbers a_this_before v_states v_empty v_cut v_rowMany v_taken v_found v_textLong v_at v_stopped v_refused) sz [.ref a_this, .int x1, .int x2]) (g_QI D (g_tys cI cM) (va_A (ww_X8_rest cI cM a_this a_this_all a_this_past a_this_refused a_this_box a_this_row a_this_text a_this_numbers a_this_before v_states v_empty v_cut v_rowMany v_taken v_found v_textLong v_at v_stopped v_refused) sz) (ww_X8_rest cI cM a_this a_this_all a_this_past a_this_refused a_this_box a_this_row a_this_text a_this_numbers a_this_before v_states v_empty v_cut v_rowMany v_taken v_found v_textLong v_at v_stopped o_refused) r) 0 0 (va_A (ww_X8_rest cI cM a_this a_this_all a_this_past a_this_refused a_this_box a_this_row a_this_text a_this_numbers a_this_before v_states v_empty v_cut v_rowMany v_taken v_found v_textLong v_at v_stopped v_refused) sz) := by
  refine g_metD (cc := cX8_rest) (maxL := 4) (ret := (some .int)) (Qc := fun D A => g_QI D (g_tys cI cM) A (ww_X8_rest cI cM a_this a_this_all a_this_past a_this_refused a_this_box a_this_row a_this_text a_this_numbers a_this_before v_states v_empty v_cut v_rowMany v_taken v_found v_textLong v_at v_stopped o_refused) r) (by decide) rfl ?_
  intro p e s m below meth c A C0 hA hK hP hD hd0
  have hl := lv_entry ([.ref a_this, .int x1, .int x2]) (n := 4) (Nat.le_of_ble_eq_true rfl)
  rw [lg_entry_eq]
  generalize (lg_sl ([.ref a_this, .int x1, .int x2]) ++ List.replicate (4 - (lg_sl ([.ref a_this, .int x1, .int x2])).length) Slot.unset).toArray = ls at hl ⊢
  have hl : lv_has ls 4 [(0, .ref a_this), (1, .int x1), (2, .int x2)] := hl
  have C1 := g_cxD C0 s.drawn
  obtain ⟨hx, hb, hr, hml, hown, hts, hlocks⟩ := id C1
  unfold f_X8_rest at hf
  have hS : va_S A s.heap s.heap [] := va_S.rf
  refine lv_iload_n hx hb dX8_rest_0 rfl (lv_at hl 1 rfl) ?_
  obtain ⟨r1, hg1, hf⟩ := o_b1_go hf
  refine g_callSi (rest := []) ⟨hx, hb, hml, hown, hts⟩ (c_X8_isPlace l hg1) (va_cwS 1 hts gX8_rest_X8_isPlace rfl rfl rfl (by decide +kernel) ⟨Nat.le_of_ble_eq_true rfl, Nat.le_of_ble_eq_true rfl⟩) rfl hl.1 rfl (Nat.le_of_ble_eq_true rfl) dX8_rest_1 ?_
  refine lv_if_eq (tgt := 14) hx hb dX8_rest_4 (by decide) (fun c4 => ?_) (fun c4 => ?_)
  · replace hf := o_t c4 hf
    refine W.endD hd0 ?_
    exact w_X8_rest_B14 (s := s.setDrawn s.drawn) C1 hA hK v_refused s.heap [] ls hf hP hD hS (lv_sub hl [0] rfl)
  · replace hf := o_f c4 hf
    refine lv_iload_n hx hb dX8_rest_7 rfl (lv_at hl 2 rfl) ?_
    obtain ⟨r8, hg8, hf⟩ := o_b1_go hf
    refine g_callSi (rest := []) ⟨hx, hb, hml, hown, hts⟩ (c_X8_isPlace l hg8) (va_cwS 1 hts gX8_rest_X8_isPlace rfl rfl rfl (by decide +kernel) ⟨Nat.le_of_ble_eq_true rfl, Nat.le_of_ble_eq_true rfl⟩) rfl hl.1 rfl (Nat.le_of_ble_eq_true rfl) dX8_rest_8 ?_
    refine lv_if_ne (tgt := 21) hx hb dX8_rest_11 (by decide) (fun c11 => ?_) (fun c11 => ?_)
    · replace hf := o_f c11 hf
      refine lv_iload_n hx hb dX8_rest_21 rfl (lv_at hl 1 rfl) ?_
      obtain ⟨r22, hg22, hf⟩ := o_b1_go hf
      refine g_callSf (rest := []) ⟨hx, hb, hml, hown, hts⟩ (c_X8_number l hg22) (va_cwS 1 hts gX8_rest_X8_number rfl rfl rfl (by decide +kernel) ⟨Nat.le_of_ble_eq_true rfl, Nat.le_of_ble_eq_true rfl⟩) rfl hl.1 rfl (Nat.le_of_ble_eq_true rfl) dX8_rest_22 ?_
      refine lv_iload_n hx hb dX8_rest_25 rfl (lv_at hl 2 rfl) ?_
      obtain ⟨r26, hg26, hf⟩ := o_b1_go hf
      refine g_callSf (rest := [.float r22]) ⟨hx, hb, hml, hown, hts⟩ (c_X8_number l hg26) (va_cwS 1 hts gX8_rest_X8_number rfl rfl rfl (by decide +kernel) ⟨Nat.le_of_ble_eq_true rfl, Nat.le_of_ble_eq_true rfl⟩) rfl hl.1 rfl (Nat.le_of_ble_eq_true rfl) dX8_rest_26 ?_
      refine lv_frem_any hd0 lw_bits hx hb dX8_rest_29 (fun t30 d1 hal hd1 => ?_)
      refine W.endD hd1 ?_
      exact w_X8_rest_B30 (s := s.setDrawn d1) (g_cxD C0 d1) hA hK v_refused x1 x2 _ t30 s.heap [] ls hal hf hP hD hS (lv_sub hl [0, 1, 2] rfl)
    · replace hf := o_t c11 hf
      refine W.endD hd0 ?_
      exact w_X8_rest_B14 (s := s.setDrawn s.drawn) C1 hA hK v_refused s.heap [] ls hf hP hD hS (lv_sub hl [0] rfl)
/-! FloatBoxesModel.narrow(J)I -/
abbrev rm_X8_narrow : Room := { frames := 3, cells := 0, slots := 0, locals := 64 }
abbrev ww_X8_narrow (cI cM : ClassId) (a_this a_this_all a_this_past a_this_refused a_this_box a_this_row a_this_text a_this_numbers a_this_before : Nat) (v_states : Int32) (v_empty : Int32) (v_cut : Int32) (v_rowMany : Int32) (v_taken : Int32) (v_found : Int32) (v_textLong : Int32) (v_at : Int32) (v_stopped : Int32) (v_refused : Nat → Int32) : va_W := [(a_this, .inr (6, [.ref a_this_all, .ref a_this_past, .int v_states, .ref a_this_refused, .ref a_this_box, .int v_empty, .int v_cut, .ref a_this_row, .int v_rowMany, .int v_taken, .int v_found, .ref a_this_text, .int v_textLong, .int v_at, .ref a_this_numbers, .int v_stopped, .ref a_this_before])), (a_this_refused, .inl (cI, 3, .inl v_refused))]
set_option maxHeartbeats 4000000 in
set_option maxRecDepth 100000 in
theorem w_X8_narrow_B4 {p : Program} {l : Launch} {e : Env} {s : State} {m : MethodId} {args : Array Value} {below : List Frame} {meth : Method} {c : Code} {D : va_G} {cI cM : ClassId} {A : Nat → Prop} {a_this a_this_all a_this_past a_this_refused a_this_box a_this_row a_this_text a_this_numbers a_this_before : Nat} {v_states : Int32} {v_empty : Int32} {v_cut : Int32} {v_rowMany : Int32} {v_taken : Int32} {v_found : Int32} {v_textLong : Int32} {v_at : Int32} {v_stopped : Int32} {r : Int32} {o_refused : Nat → Int32} (C0 : g_cx cX8_narrow (some .int) 6 RX8 wsX8_narrow p s m args meth c) (hA : ∀ q, s.heap.size ≤ q → A q) (hK : va_K D vwCl (g_tys cI cM) s) : ∀ (v_refused : Nat → Int32) (x1 : Int64) (t4 : UInt64) (H : Heap) (locs : List Loc) (ls : Array Slot), ((isNaN64 x1.toUInt64 = true ∧ isNaN64 t4 = true) ∨ (¬ isNaN64 x1.toUInt64 = true ∧ t4 = x1.toUInt64)) → f_X8_narrow v_refused x1 = some (r, o_refused) → va_P D vwCl (ww_X8_narrow cI cM a_this a_this_all a_this_past a_this_refused a_this_box a_this_row a_this_text a_this_numbers a_this_before v_states v_empty v_cut v_rowMany v_taken v_found v_textLong v_at v_stopped v_refused) H → va_D A (ww_X8_narrow cI cM a_this a_this_all a_this_past a_this_refused a_this_box a_this_row a_this_text a_this_numbers a_this_before v_states v_empty v_cut v_rowMany v_taken v_found v_textLong v_at v_stopped v_refused) → va_S A s.heap H locs → lv_has ls 6 [(0, .ref a_this), (1, .long x1)] → W p l e rm_X8_narrow s m args below meth c H locs 0 0 (MQ below (g_QI D (g_tys cI cM) A (ww_X8_narrow cI cM a_this a_this_all a_this_past a_this_refused a_this_box a_this_row a_this_text a_this_numbers a_this_before v_states v_empty v_cut v_rowMany v_taken v_found v_textLong v_at v_stopped o_refused) r) args s 0 0 A) (F0 m 4 ls [.double t4]) := by
  obtain ⟨hx, hb, hr, hml, hown, hts, hlocks⟩ := id C0
  intro v_refused x1 t4 H locs ls hcase hf hP hD hS hl
  unfold f_X8_narrow at hf
  refine lv_dstore_n (lv' := [(3, .double t4), (0, .ref a_this), (1, .long x1)]) hx hb dX8_narrow_4 rfl hl (by decide) rfl (fun ls hl => ?_)
  refine lv_dload_n hx hb dX8_narrow_5 rfl (lv_at hl 0 rfl) ?_
  refine lv_dload_n hx hb dX8_narrow_6 rfl (lv_at hl 0 rfl) ?_
  refine lv_dcmp hx hb dX8_narrow_7 ?_
  refine lv_if_eq (tgt := 18) hx hb dX8_narrow_8 (by decide) (fun c8 => ?_) (fun c8 => ?_)
  · have hne := (cmp64 t4).mp c8
    obtain ⟨g1, rfl⟩ : ¬ isNaN64 x1.toUInt64 = true ∧ t4 = x1.toUInt64 := hcase.resolve_left (fun q => hne q.2)
    rw [if_neg g1] at hf
    refine lv_dload_n hx hb dX8_narrow_18 rfl (lv_at hl 0 rfl) ?_
    obtain ⟨h19, hf⟩ := o_ck_go hf
    replace h19 := of_decide_eq_true h19
    refine lv_d2f hx hb dX8_narrow_19 h19 ?_
    obtain ⟨r20, hg20, hf⟩ := o_b1_go hf
    refine g_callSi (rest := []) ⟨hx, hb, hml, hown, hts⟩ (c_X8_place l hg20) (va_cwS 1 hts gX8_narrow_X8_place rfl rfl rfl (by decide +kernel) ⟨Nat.le_of_ble_eq_true rfl, Nat.le_of_ble_eq_true rfl⟩) rfl hl.1 rfl (Nat.le_of_ble_eq_true rfl) dX8_narrow_20 ?_
    refine lv_istore (lv' := [(5, .int r20), (3, .double x1.toUInt64), (0, .ref a_this), (1, .long x1)]) hx hb dX8_narrow_23 hl (by decide) rfl (fun ls hl => ?_)
    refine lv_iload hx hb dX8_narrow_25 (lv_at hl 0 rfl) ?_
    obtain ⟨r27, hg27, hf⟩ := o_b1_go hf
    refine g_callSi (rest := []) ⟨hx, hb, hml, hown, hts⟩ (c_X8_isPlace l hg27) (va_cwS 1 hts gX8_narrow_X8_isPlace rfl rfl rfl (by decide +kernel) ⟨Nat.le_of_ble_eq_true rfl, Nat.le_of_ble_eq_true rfl⟩) rfl hl.1 rfl (Nat.le_of_ble_eq_true rfl) dX8_narrow_27 ?_
    refine lv_if_eq (tgt := 38) hx hb dX8_narrow_30 (by decide) (fun c30 => ?_) (fun c30 => ?_)
    · replace hf := o_t c30 hf
      refine lv_aload_n hx hb dX8_narrow_38 rfl (lv_at hl 2 rfl) ?_
      refine lv_ldcw (v := (-2139095051)) hx hb hown (hts (.constant RX8 264 (-2139095051)) (List.mem_cons_of_mem _ (List.mem_append_left _ (List.mem_append_left _ (List.mem_of_getElem? (i := 5) rfl))))) dX8_narrow_39 ?_
      obtain ⟨r42, v_refused_42, hg42, hf⟩ := o_b2_go hf
      refine g_callVi (wn := (ww_X8_narrow cI cM a_this a_this_all a_this_past a_this_refused a_this_box a_this_row a_this_text a_this_numbers a_this_before v_states v_empty v_cut v_rowMany v_taken v_found v_textLong v_at v_stopped v_refused_42)) (rest := []) ⟨hx, hb, hml, hown, hts⟩ (c_X8_refuses l D cI cM a_this a_this_all a_this_past a_this_refused a_this_box a_this_row a_this_text a_this_numbers a_this_before H.size v_states v_empty v_cut v_rowMany v_taken v_found v_textLong v_at v_stopped v_refused hg42) (cwV 1 hts gX8_narrow_X8_refuses rfl rfl rfl (by decide +kernel) ⟨Nat.le_of_ble_eq_true rfl, Nat.le_of_ble_eq_true rfl⟩) hK hP hD hS hA [0, 1] [] [0, 1] rfl rfl rfl rfl rfl rfl (by decide) rfl rfl rfl hl.1 rfl (Nat.le_of_ble_eq_true rfl) dX8_narrow_42 (fun H locs hP hD hS => ?_)
      obtain ⟨q0, y0⟩ := o_rp hf
      have q1 := Option.some.inj y0
      subst q0 q1
      exact g_iret hx hb hr hlocks hP hD hK hS dX8_narrow_45
    · replace hf := o_f c30 hf
      refine lv_iload hx hb dX8_narrow_33 (lv_at hl 0 rfl) ?_
      refine lv_goto (tgt := 45) hx hb dX8_narrow_35 (by decide) ?_
      obtain ⟨q0, y0⟩ := o_rp hf
      have q1 := Option.some.inj y0
      subst q0 q1
      exact g_iret hx hb hr hlocks hP hD hK hS dX8_narrow_45
  · have hne : isNaN64 t4 = true := Classical.byContradiction fun q => c8 ((cmp64 t4).mpr q)
    have g1 : isNaN64 x1.toUInt64 = true := by
      rcases hcase with q | q
      · exact q.1
      · rw [← q.2]; exact hne
    rw [if_pos g1] at hf
    refine lv_aload_n hx hb dX8_narrow_11 rfl (lv_at hl 1 rfl) ?_
    refine lv_ldc (v := (-2139095050)) hx hb hown (hts (.constant RX8 42 (-2139095050)) (List.mem_cons_of_mem _ (List.mem_append_left _ (List.mem_append_left _ (List.mem_of_getElem? (i := 4) rfl))))) dX8_narrow_12 ?_
    obtain ⟨r14, v_refused_14, hg14, hf⟩ := o_b2_go hf
    refine g_callVi (wn := (ww_X8_narrow cI cM a_this a_this_all a_this_past a_this_refused a_this_box a_this_row a_this_text a_this_numbers a_this_before v_states v_empty v_cut v_rowMany v_taken v_found v_textLong v_at v_stopped v_refused_14)) (rest := []) ⟨hx, hb, hml, hown, hts⟩ (c_X8_refuses l D cI cM a_this a_this_all a_this_past a_this_refused a_this_box a_this_row a_this_text a_this_numbers a_this_before H.size v_states v_empty v_cut v_rowMany v_taken v_found v_textLong v_at v_stopped v_refused hg14) (cwV 1 hts gX8_narrow_X8_refuses rfl rfl rfl (by decide +kernel) ⟨Nat.le_of_ble_eq_true rfl, Nat.le_of_ble_eq_true rfl⟩) hK hP hD hS hA [0, 1] [] [0, 1] rfl rfl rfl rfl rfl rfl (by decide) rfl rfl rfl hl.1 rfl (Nat.le_of_ble_eq_true rfl) dX8_narrow_14 (fun H locs hP hD hS => ?_)
    obtain ⟨q0, y0⟩ := o_rp hf
    have q1 := Option.some.inj y0
    subst q0 q1
    exact g_iret hx hb hr hlocks hP hD hK hS dX8_narrow_17
set_option maxHeartbeats 4000000 in
set_option maxRecDepth 100000 in
theorem c_X8_narrow (l : Launch) (D : va_G) (cI cM : ClassId) (a_this a_this_all a_this_past a_this_refused a_this_box a_this_row a_this_text a_this_numbers a_this_before : Nat) (sz : Nat) (v_states : Int32) (v_empty : Int32) (v_cut : Int32) (v_rowMany : Int32) (v_taken : Int32) (v_found : Int32) (v_textLong : Int32) (v_at : Int32) (v_stopped : Int32) (v_refused : Nat → Int32) {x1 : Int64} {r : Int32} {o_refused : Nat → Int32} (hf : f_X8_narrow v_refused x1 = some (r, o_refused)) : MetD lw_cs l yX8_narrow wsX8_narrow rm_X8_narrow (g_Pc D (g_tys cI cM) (ww_X8_narrow cI cM a_this a_this_all a_this_past a_this_refused a_this_box a_this_row a_this_text a_this_numbers a_this_before v_states v_empty v_cut v_rowMany v_taken v_found v_textLong v_at v_stopped v_refused) sz [.ref a_this, .long x1]) (g_QI D (g_tys cI cM) (va_A (ww_X8_narrow cI cM a_this a_this_all a_this_past a_this_refused a_this_box a_this_row a_this_text a_this_numbers a_this_before v_states v_empty v_cut v_rowMany v_taken v_found v_textLong v_at v_stopped v_refused) sz) (ww_X8_narrow cI cM a_this a_this_all a_this_past a_this_refused a_this_box a_this_row a_this_text a_this_numbers a_this_before v_states v_empty v_cut v_rowMany v_taken v_found v_textLong v_at v_stopped o_refused) r) 0 0 (va_A (ww_X8_narrow cI cM a_this a_this_all a_this_past a_this_refused a_this_box a_this_row a_this_text a_this_numbers a_this_before v_states v_empty v_cut v_rowMany v_taken v_found v_textLong v_at v_stopped v_refused) sz) := by
  refine g_metD (cc := cX8_narrow) (maxL := 6) (ret := (some .int)) (Qc := fun D A => g_QI D (g_tys cI cM) A (ww_X8_narrow cI cM a_this a_this_all a_this_past a_this_refused a_this_box a_this_row a_this_text a_this_numbers a_this_before v_states v_empty v_cut v_rowMany v_taken v_found v_textLong v_at v_stopped o_refused) r) (by decide) rfl ?_
  intro p e s m below meth c A C0 hA hK hP hD hd0
  have hl := lv_entry ([.ref a_this, .long x1]) (n := 6) (Nat.le_of_ble_eq_true rfl)
  rw [lg_entry_eq]
  generalize (lg_sl ([.ref a_this, .long x1]) ++ List.replicate (6 - (lg_sl ([.ref a_this, .long x1])).length) Slot.unset).toArray = ls at hl ⊢
  have hl : lv_has ls 6 [(0, .ref a_this), (1, .long x1)] := hl
  have C1 := g_cxD C0 s.drawn
  obtain ⟨hx, hb, hr, hml, hown, hts, hlocks⟩ := id C1
  have hS : va_S A s.heap s.heap [] := va_S.rf
  refine lv_lload_n hx hb dX8_narrow_0 rfl (lv_at hl 1 rfl) ?_
  by_cases g : vn_snl2d x1 = true
  · refine o_l2d_any hd0 (by decide) hx hb (by rw [hml]; exact hl.1.symm) hown (hts (.methodLink RX8 265 ⟨"java/lang/Double", "longBitsToDouble", "(J)D"⟩) (List.mem_cons_of_mem _ (List.mem_append_left _ (List.mem_append_left _ (List.mem_of_getElem? (i := 0) rfl))))) (hts (.native ⟨"java/lang/Double", "longBitsToDouble", "(J)D"⟩) (List.mem_cons_of_mem _ (List.mem_append_left _ (List.mem_append_left _ (List.mem_of_getElem? (i := 1) rfl))))) (hts (.static ⟨"java/lang/Double", "longBitsToDouble", "(J)D"⟩) (List.mem_cons_of_mem _ (List.mem_append_left _ (List.mem_append_left _ (List.mem_of_getElem? (i := 2) rfl))))) (hts (.initialized "java/lang/Double") (List.mem_cons_of_mem _ (List.mem_append_left _ (List.mem_append_left _ (List.mem_of_getElem? (i := 3) rfl))))) g (Nat.le_of_ble_eq_true rfl) (Nat.le_of_ble_eq_true rfl) dX8_narrow_1 (fun t4 d1 hnan hd1 => ?_)
    refine W.endD hd1 ?_
    have hnn : isNaN64 x1.toUInt64 = true := by
      unfold vn_snl2d at g
      exact (Bool.and_eq_true_iff.mp g).1
    exact w_X8_narrow_B4 (s := s.setDrawn d1) (g_cxD C0 d1) hA hK v_refused x1 t4 s.heap [] ls (Or.inl ⟨hnn, hnan⟩) hf hP hD hS (lv_sub hl [0, 1] rfl)
  · refine vn_l2d hx hb (by rw [hml]; exact hl.1.symm) hown (hts (.methodLink RX8 265 ⟨"java/lang/Double", "longBitsToDouble", "(J)D"⟩) (List.mem_cons_of_mem _ (List.mem_append_left _ (List.mem_append_left _ (List.mem_of_getElem? (i := 0) rfl))))) (hts (.native ⟨"java/lang/Double", "longBitsToDouble", "(J)D"⟩) (List.mem_cons_of_mem _ (List.mem_append_left _ (List.mem_append_left _ (List.mem_of_getElem? (i := 1) rfl))))) (hts (.static ⟨"java/lang/Double", "longBitsToDouble", "(J)D"⟩) (List.mem_cons_of_mem _ (List.mem_append_left _ (List.mem_append_left _ (List.mem_of_getElem? (i := 2) rfl))))) (hts (.initialized "java/lang/Double") (List.mem_cons_of_mem _ (List.mem_append_left _ (List.mem_append_left _ (List.mem_of_getElem? (i := 3) rfl))))) (by simpa using g) (Nat.le_of_ble_eq_true rfl) (Nat.le_of_ble_eq_true rfl) dX8_narrow_1 ?_
    refine W.endD hd0 ?_
    refine w_X8_narrow_B4 (s := s.setDrawn s.drawn) C1 hA hK v_refused x1 x1.toUInt64 s.heap [] ls ?_ hf hP hD hS (lv_sub hl [0, 1] rfl)
    by_cases g2 : isNaN64 x1.toUInt64 = true
    · exact Or.inl ⟨g2, g2⟩
    · exact Or.inr ⟨g2, rfl⟩
