/-! ===== rules of an unknown; ranges cut in place; what a rule would leave ===== -/
theorem setR {S : mS} {u : Nat} {p q : Int} (hS : mOK S) (hu : u < sn S) (hp : isP p) (hq : isP q) (hpq : p ≤ q) : mOK (sRange S u p q) ∧
    (∀ un ru l h kd x y z, mC S un ru l h kd x y z → mC (sRange S u p q) un ru (upd l u (Int32.ofInt p)) (upd h u (Int32.ofInt q)) kd x y z) ∧
    (∀ all, mR S all → mR (sRange S u p q) (upd (upd all (1 + 2 * u) (Int32.ofInt p)) (2 + 2 * u) (Int32.ofInt q))) := by
  have hn := hS.1
  have hm := hS.2.1
  refine ⟨⟨hn, hm, fun v hv => ?_, hS.2.2.2⟩, fun un ru l h kd x y z hC => ?_, fun all hR => ?_⟩
  · have hv' : v < sn S := hv
    show isP (if v = u then p else sl S v) ∧ isP (if v = u then q else sh S v) ∧ (if v = u then p else sl S v) ≤ (if v = u then q else sh S v)
    by_cases g : v = u
    · rw [if_pos g, if_pos g]
      exact ⟨hp, hq, hpq⟩
    · rw [if_neg g, if_neg g]
      exact hS.2.2.1 v hv'
  · obtain ⟨h1, h2, h3, h4⟩ := hC
    refine ⟨h1, h2, fun v hv => ?_, h4⟩
    show upd l u _ v = Int32.ofInt (if v = u then p else sl S v) ∧ upd h u _ v = Int32.ofInt (if v = u then q else sh S v)
    unfold upd
    by_cases g : v = u
    · rw [if_pos g, if_pos g, if_pos g, if_pos g]
      exact ⟨rfl, rfl⟩
    · rw [if_neg g, if_neg g, if_neg g, if_neg g]
      exact h3 v hv
  · obtain ⟨h1, h2, h3, h4⟩ := hR
    refine ⟨?_, ?_, fun v hv => ⟨?_, ?_⟩, fun k hk => ⟨?_, ?_, ?_, ?_⟩⟩
    · rw [pk_un (by omega), pk_un (by omega)]
      exact h1
    · rw [pk_un (by omega), pk_un (by omega)]
      exact h2
    · show _ = Int32.ofInt (if v = u then p else sl S v)
      unfold upd
      rw [if_neg (by omega)]
      by_cases g : v = u
      · rw [if_pos (by omega), if_pos g]
      · rw [if_neg (by omega), if_neg g]
        exact (h3 v hv).1
    · show _ = Int32.ofInt (if v = u then q else sh S v)
      unfold upd
      by_cases g : v = u
      · rw [if_pos (by omega), if_pos g]
      · rw [if_neg (by omega), if_neg (by omega), if_neg g]
        exact (h3 v hv).2
    · rw [pk_un (by omega), pk_un (by omega)]
      exact (h4 k hk).1
    · rw [pk_un (by omega), pk_un (by omega)]
      exact (h4 k hk).2.1
    · rw [pk_un (by omega), pk_un (by omega)]
      exact (h4 k hk).2.2.1
    · rw [pk_un (by omega), pk_un (by omega)]
      exact (h4 k hk).2.2.2
theorem if_iff {p q : Prop} [Decidable p] [Decidable q] {a b : Nat} (h : p ↔ q) : (if p then a else b) = if q then a else b := by
  by_cases g : p
  · rw [if_pos g, if_pos (h.mp g)]
  · rw [if_neg g, if_neg (fun x => g (h.mpr x))]
theorem rulesOf_loop {S : mS} {N : Nat} {x1 : Int32} (hS : mOK S) : ∀ (j k q F : Nat), k + j = sm S → j < F → ∃ c : Int32,
    (∀ kd x y z, rC S kd x y z → f_X3_rulesOf_L4 N (nI (sm S)) x y kd z F x1 (nI q) (nI k) = some c) ∧
    (∀ all, mR S all → ∀ ss rr past, f_X8_range_L66 N F ss all rr past x1 (nI q) (nI k) = some (c, ss, all, rr, past)) := by
  have hm := hS.2.1
  intro j
  induction j with
  | zero =>
    intro k q F hk hF
    obtain ⟨F', rfl⟩ : ∃ F', F = F' + 1 := ⟨F - 1, by omega⟩
    have hle : nI (sm S) ≤ nI k := (nI_leI (by omega) (by omega)).mpr (by omega)
    refine ⟨nI q, fun kd x y z hC => ?_, fun all hR ss rr past => ?_⟩
    · rw [show f_X3_rulesOf_L4 N (nI (sm S)) x y kd z (F' + 1) = f_X3_rulesOf_C4 N (nI (sm S)) x y kd z (f_X3_rulesOf_L4 N (nI (sm S)) x y kd z F') from rfl]
      unfold f_X3_rulesOf_C4
      rw [if_pos hle]
    · rw [show f_X8_range_L66 N (F' + 1) = f_X8_range_C66 N (f_X8_range_L66 N F') from rfl]
      unfold f_X8_range_C66
      rw [y_rules hR, o_b1_some, if_pos hle]
  | succ j ih =>
    intro k q F hk hF
    obtain ⟨F', rfl⟩ : ∃ F', F = F' + 1 := ⟨F - 1, by omega⟩
    have hkm : k < sm S := by omega
    have hlt : ¬ nI (sm S) ≤ nI k := fun q => by
      have := (nI_leI (by omega) (by omega)).mp q
      omega
    obtain ⟨q', hq'⟩ : ∃ q' : Nat, q' = if nI (sx S k) = x1 ∨ nI (sy S k) = x1 ∨ (¬ (3 : Int32) ≤ nI (sk S k) ∧ nI (sz S k) = x1) then q + 1 else q := ⟨_, rfl⟩
    obtain ⟨c, hc, hr⟩ := ih (k + 1) q' F' (by omega) (by omega)
    refine ⟨c, fun kd x y z hC => ?_, fun all hR ss rr past => ?_⟩
    · obtain ⟨w1, w2, w3, w4⟩ := hC k hkm
      rw [← hc kd x y z hC, show f_X3_rulesOf_L4 N (nI (sm S)) x y kd z (F' + 1) = f_X3_rulesOf_C4 N (nI (sm S)) x y kd z (f_X3_rulesOf_L4 N (nI (sm S)) x y kd z F') from rfl]
      unfold f_X3_rulesOf_C4 f_X3_rulesOf_B52 f_X3_rulesOf_B55
      rw [if_neg hlt, nI_clamp (by omega), w1, w2, w3, w4, o_inN (by omega) (by decide), o_inN (by omega) (by decide), o_inN (by omega) (by decide), o_inN (by omega) (by decide), nI_1, nI_1, hq']
      by_cases a1 : nI (sx S k) = x1
      · rw [if_pos a1, if_pos (Or.inl a1)]
      · rw [if_neg a1]
        by_cases a2 : nI (sy S k) = x1
        · rw [if_pos a2, if_pos (Or.inr (Or.inl a2))]
        · rw [if_neg a2]
          by_cases a3 : (3 : Int32) ≤ nI (sk S k)
          · rw [if_pos a3, if_neg (by
              intro h
              rcases h with h | h | h
              · exact a1 h
              · exact a2 h
              · exact h.1 a3)]
          · rw [if_neg a3]
            by_cases a4 : nI (sz S k) = x1
            · rw [if_pos a4, if_pos (Or.inr (Or.inr ⟨a3, a4⟩))]
            · rw [if_neg a4, if_neg (by
                intro h
                rcases h with h | h | h
                · exact a1 h
                · exact a2 h
                · exact a4 h.2)]
    · rw [← hr all hR ss rr past, show f_X8_range_L66 N (F' + 1) = f_X8_range_C66 N (f_X8_range_L66 N F') from rfl]
      have t1 : f_X8_range_B133 N (f_X8_range_L66 N F') ss all rr past x1 (nI k) (nI q) = f_X8_range_L66 N F' ss all rr past x1 (nI (q + 1)) (nI (k + 1)) := by
        unfold f_X8_range_B133 f_X8_range_B138
        simp only [o_nm]
        rw [nI_1, nI_1]
      have t0 : f_X8_range_B138 N (f_X8_range_L66 N F') ss all rr past x1 (nI k) (nI q) 0 = f_X8_range_L66 N F' ss all rr past x1 (nI q) (nI (k + 1)) := by
        unfold f_X8_range_B138
        simp only [o_nm]
        rw [nI_1, show nI q + 0 = nI q from nI_add q 0]
      have t : ∀ b : Bool, f_X8_range_B102 N (f_X8_range_L66 N F') ss all rr past x1 (nI q) (nI k) (bI b) = f_X8_range_L66 N F' ss all rr past x1 (nI (if nI (sx S k) = x1 ∨ nI (sy S k) = x1 ∨ b = true then q + 1 else q)) (nI (k + 1)) := fun b => by
        unfold f_X8_range_B102
        rw [y_rule1 hS hR hkm, o_b1_some, y_rule2 hS hR hkm, o_b1_some, t1, t0]
        by_cases a1 : nI (sx S k) = x1
        · rw [if_pos a1, if_pos (Or.inl a1)]
        · rw [if_neg a1]
          by_cases a2 : nI (sy S k) = x1
          · rw [if_pos a2, if_pos (Or.inr (Or.inl a2))]
          · rw [if_neg a2]
            cases b
            · rw [if_pos bI_f, if_neg (by
                intro h
                rcases h with h | h | h
                · exact a1 h
                · exact a2 h
                · cases h)]
            · rw [if_neg bI_t, if_pos (Or.inr (Or.inr rfl))]
      unfold f_X8_range_C66 f_X8_range_B101
      rw [y_rules hR, o_b1_some, if_neg hlt, y_rule0 hS hR hkm, o_b1_some, y_rule3 hS hR hkm, o_b1_some, hq']
      by_cases a3 : (3 : Int32) ≤ nI (sk S k)
      · rw [if_pos a3]
        refine Eq.trans (t false) ?_
        refine congrArg (fun w => f_X8_range_L66 N F' ss all rr past x1 (nI w) (nI (k + 1))) ?_
        refine if_iff ?_
        constructor
        · intro h
          rcases h with h | h | h
          · exact Or.inl h
          · exact Or.inr (Or.inl h)
          · cases h
        · intro h
          rcases h with h | h | h
          · exact Or.inl h
          · exact Or.inr (Or.inl h)
          · exact absurd a3 h.1
      · rw [if_neg a3]
        by_cases a4 : nI (sz S k) = x1
        · rw [if_pos a4]
          refine Eq.trans (t true) ?_
          refine congrArg (fun w => f_X8_range_L66 N F' ss all rr past x1 (nI w) (nI (k + 1))) ?_
          rw [if_pos (Or.inr (Or.inr rfl)), if_pos (Or.inr (Or.inr ⟨a3, a4⟩))]
        · rw [if_neg a4]
          refine Eq.trans (t false) ?_
          refine congrArg (fun w => f_X8_range_L66 N F' ss all rr past x1 (nI w) (nI (k + 1))) ?_
          refine if_iff ?_
          constructor
          · intro h
            rcases h with h | h | h
            · exact Or.inl h
            · exact Or.inr (Or.inl h)
            · cases h
          · intro h
            rcases h with h | h | h
            · exact Or.inl h
            · exact Or.inr (Or.inl h)
            · exact absurd h.2 a4
/-! ranges cut in place -/
theorem lay21 {S : mS} {N : Nat} {B : aB} {e c r : Int32} {box : Nat → Int32} (hS : mOK S) (hb : ∀ u, u < sn S → box (2 * u) = Int32.ofInt (B.1 u) ∧ box (2 * u + 1) = Int32.ofInt (B.2.1 u)) : ∀ (j u F : Nat) (all : Nat → Int32), u + j = sn S → j < F → mR (sn S, sm S, fun v => if v < u then B.1 v else sl S v, fun v => if v < u then B.2.1 v else sh S v, sk S, sx S, sy S, sz S) all → ∃ all', f_X8_cutNow_L21 N F e c all box r (nI u) = some (r, e, c, all', box) ∧ mR (sBox S B) all' := by
  have hn := hS.1
  have hm := hS.2.1
  intro j
  induction j with
  | zero =>
    intro u F all hu hF hR
    obtain ⟨F', rfl⟩ : ∃ F', F = F' + 1 := ⟨F - 1, by omega⟩
    have hle : nI (sn S) ≤ nI u := (nI_leI (by omega) (by omega)).mpr (by omega)
    refine ⟨all, ?_, ?_⟩
    · rw [show f_X8_cutNow_L21 N (F' + 1) = f_X8_cutNow_C21 N (f_X8_cutNow_L21 N F') from rfl]
      unfold f_X8_cutNow_C21
      rw [show f_X8_unknowns all = some (nI (sn S)) from y_unknowns (S := (sn S, sm S, fun v => if v < u then B.1 v else sl S v, fun v => if v < u then B.2.1 v else sh S v, sk S, sx S, sy S, sz S)) hR, o_b1_some, if_pos hle]
    · obtain ⟨h1, h2, h3, h4⟩ := hR
      refine ⟨h1, h2, fun v hv => ?_, h4⟩
      have hv' : v < sn S := hv
      have := h3 v hv
      have e1 : (if v < u then B.1 v else sl S v) = B.1 v := if_pos (by omega)
      have e2 : (if v < u then B.2.1 v else sh S v) = B.2.1 v := if_pos (by omega)
      have h' : all (1 + 2 * v) = Int32.ofInt (if v < u then B.1 v else sl S v) ∧ all (2 + 2 * v) = Int32.ofInt (if v < u then B.2.1 v else sh S v) := this
      rw [e1, e2] at h'
      exact h'
  | succ j ih =>
    intro u F all hu hF hR
    obtain ⟨F', rfl⟩ : ∃ F', F = F' + 1 := ⟨F - 1, by omega⟩
    have hun : u < sn S := by omega
    have hlt : ¬ nI (sn S) ≤ nI u := fun q => by
      have := (nI_leI (by omega) (by omega)).mp q
      omega
    obtain ⟨b1, b2⟩ := hb u hun
    have hbl : f_X8_low box (nI u) = some (Int32.ofInt (B.1 u)) := by
      unfold f_X8_low o_in
      rw [y_2u, if_neg (vp_in_nI (N := 12) (by omega) (by decide)), nI_clamp (by omega), b1]
    have hbh : f_X8_high box (nI u) = some (Int32.ofInt (B.2.1 u)) := by
      unfold f_X8_high o_in
      rw [y_2u, nI_1, if_neg (vp_in_nI (N := 12) (by omega) (by decide)), nI_clamp (by omega), b2]
    obtain ⟨h1, h2, h3, h4⟩ := id hR
    obtain ⟨all', a1, a2⟩ := ih (u + 1) F' (upd (upd all (1 + 2 * u) (Int32.ofInt (B.1 u))) (2 + 2 * u) (Int32.ofInt (B.2.1 u))) (by omega) (by omega) (by
      refine ⟨?_, ?_, fun v hv => ⟨?_, ?_⟩, fun k hk => ⟨?_, ?_, ?_, ?_⟩⟩
      · rw [pk_un (by omega), pk_un (by omega)]
        exact h1
      · rw [pk_un (by omega), pk_un (by omega)]
        exact h2
      · have hv' : v < sn S := hv
        show _ = Int32.ofInt (if v < u + 1 then B.1 v else sl S v)
        unfold upd
        rw [if_neg (by omega)]
        by_cases g : v = u
        · rw [if_pos (by omega), if_pos (by omega), g]
        · rw [if_neg (by omega)]
          refine Eq.trans (h3 v hv).1 (congrArg Int32.ofInt ?_)
          show (if v < u then B.1 v else sl S v) = _
          by_cases g2 : v < u
          · rw [if_pos g2, if_pos (by omega)]
          · rw [if_neg g2, if_neg (by omega)]
      · have hv' : v < sn S := hv
        show _ = Int32.ofInt (if v < u + 1 then B.2.1 v else sh S v)
        unfold upd
        by_cases g : v = u
        · rw [if_pos (by omega), if_pos (by omega), g]
        · rw [if_neg (by omega), if_neg (by omega)]
          refine Eq.trans (h3 v hv).2 (congrArg Int32.ofInt ?_)
          show (if v < u then B.2.1 v else sh S v) = _
          by_cases g2 : v < u
          · rw [if_pos g2, if_pos (by omega)]
          · rw [if_neg g2, if_neg (by omega)]
      · have hk' : k < sm S := hk
        rw [pk_un (by omega), pk_un (by omega)]
        exact (h4 k hk).1
      · have hk' : k < sm S := hk
        rw [pk_un (by omega), pk_un (by omega)]
        exact (h4 k hk).2.1
      · have hk' : k < sm S := hk
        rw [pk_un (by omega), pk_un (by omega)]
        exact (h4 k hk).2.2.1
      · have hk' : k < sm S := hk
        rw [pk_un (by omega), pk_un (by omega)]
        exact (h4 k hk).2.2.2)
    refine ⟨all', ?_, a2⟩
    have e1 : (1 : Int32) + 2 * nI u = nI (1 + 2 * u) := by
      rw [show (1 : Int32) = nI 1 from rfl, show (2 : Int32) = nI 2 from rfl, pk_mul, nI_add]
    have e2 : (2 : Int32) + 2 * nI u = nI (2 + 2 * u) := by
      rw [show (2 : Int32) = nI 2 from rfl, pk_mul, nI_add]
    rw [← a1, show f_X8_cutNow_L21 N (F' + 1) = f_X8_cutNow_C21 N (f_X8_cutNow_L21 N F') from rfl]
    unfold f_X8_cutNow_C21
    rw [show f_X8_unknowns all = some (nI (sn S)) from y_unknowns (S := (sn S, sm S, fun v => if v < u then B.1 v else sl S v, fun v => if v < u then B.2.1 v else sh S v, sk S, sx S, sy S, sz S)) hR, o_b1_some, if_neg hlt, hbl, o_b1_some, e1, o_inN (by omega) (by decide), hbh, o_b1_some, e2, o_inN (by omega) (by decide), nI_clamp (by omega), nI_clamp (by omega), nI_1]
theorem cut_now {S : mS} {N : Nat} (hS : mOK S) (hN : 40 ≤ N) : ∃ (r : Int32) (S' : mS), mOK S' ∧
    (∀ un ru l h kd x y z, mC S un ru l h kd x y z → ∀ c e cl ch, ∃ c' e' l' cl' h' ch', f_X7_cutRanges N ru x y z kd c e l cl h ch = some (r, c', e', l', cl', h', ch') ∧ mC S' un ru l' h' kd x y z) ∧
    (∀ all, mR S all → ∀ e c box, ∃ e' c' all' b', f_X8_cutNow N e c all box = some (r, e', c', all', b') ∧ mR S' all') := by
  have hn := hS.1
  obtain ⟨B', a, ha, ok, c', r'⟩ := cut_all (N := N) (B := nowB S) hS hN hS.2.2.1 rfl
  have cls : ∀ un ru l h kd x y z, mC S un ru l h kd x y z → ∀ c e cl ch, ∃ c1 e1 l1 h1, aCw (sn S) B' e1 l1 h1 ∧ f_X7_cutRanges N ru x y z kd c e l cl h ch = if fin B' a = -2139095049 then some (fin B' a, c1, e1, l, l1, h, h1) else some (fin B' a, c1, e1, va_cpy l1 l 0 0 6, l1, va_cpy h1 h 0 0 6, h1) := fun un ru l h kd x y z hC c e cl ch => by
    obtain ⟨g1, g2, g3, g4⟩ := hC
    obtain ⟨c1, e1, l1, h1, heq, hw⟩ := c' kd x y z g4 c e (va_cpy l cl 0 0 6) (va_cpy h ch 0 0 6) (fun u hu => ⟨cpy6 (k := 0) (L := sl S) hn (fun v hv => by rw [Nat.zero_add]; exact (g3 v hv).1) u hu, cpy6 (k := 0) (L := sh S) hn (fun v hv => by rw [Nat.zero_add]; exact (g3 v hv).2) u hu⟩)
    refine ⟨c1, e1, l1, h1, hw, ?_⟩
    unfold f_X7_cutRanges
    have hl : f_X0_load 6 6 l h cl ch 0 = some (va_cpy l cl 0 0 6, va_cpy h ch 0 0 6) := z_load (k := 0) (by omega) (by decide)
    have hst : f_X0_store 6 6 l1 h1 l h 0 = some (va_cpy l1 l 0 0 6, va_cpy h1 h 0 0 6) := z_store (k := 0) (by omega) (by decide)
    rw [hl, o_b2_some, g2, heq, o_b5_some, hst, o_b2_some]
  have ref : ∀ all, mR S all → ∀ e c box, ∃ x1 e1 c1 b1, aRw (sn S) B' e1 b1 ∧ (B'.2.2.2 = false → x1 = nI a) ∧ f_X8_cutNow N e c all box = if e1 = 0 then f_X8_cutNow_L21 N N e1 c1 all b1 x1 0 else some (-2139095049, e1, c1, all, b1) := fun all hR e c box => by
    obtain ⟨box', hb1, hb2⟩ := y_lays (N := N) hS hN hR e box
    obtain ⟨x1, e1, c1, b1, heq, hw, hx⟩ := r' all hR c box' hb2
    refine ⟨x1, e1, c1, b1, hw, hx, ?_⟩
    unfold f_X8_cutNow
    rw [hb1, o_b2_some, heq, o_b4_some]
  by_cases he : B'.2.2.2 = true
  · have hf : fin B' a = -2139095049 := by
      unfold fin
      rw [if_pos he]
    refine ⟨-2139095049, S, hS, fun un ru l h kd x y z hC c e cl ch => ?_, fun all hR e c box => ?_⟩
    · obtain ⟨c1, e1, l1, h1, hw, heq⟩ := cls un ru l h kd x y z hC c e cl ch
      rw [hf, if_pos rfl] at heq
      exact ⟨c1, e1, l, l1, h, h1, heq, hC⟩
    · obtain ⟨x1, e1, c1, b1, hw, hx, heq⟩ := ref all hR e c box
      rw [if_neg (by rw [hw.1, he]; decide)] at heq
      exact ⟨e1, c1, all, b1, heq, hR⟩
  · have he' : B'.2.2.2 = false := by simpa using he
    have hf : fin B' a = nI a := by
      unfold fin
      rw [if_neg he]
    refine ⟨nI a, sBox S B', ⟨hn, hS.2.1, ok, hS.2.2.2⟩, fun un ru l h kd x y z hC c e cl ch => ?_, fun all hR e c box => ?_⟩
    · obtain ⟨c1, e1, l1, h1, hw, heq⟩ := cls un ru l h kd x y z hC c e cl ch
      rw [hf, if_neg (nI_none ha)] at heq
      obtain ⟨g1, g2, g3, g4⟩ := hC
      exact ⟨c1, e1, _, l1, _, h1, heq, g1, g2, fun u hu => ⟨cpy6 (k := 0) (L := B'.1) hn (fun v hv => by rw [Nat.zero_add]; exact (hw.2 v hv).1) u hu, cpy6 (k := 0) (L := B'.2.1) hn (fun v hv => by rw [Nat.zero_add]; exact (hw.2 v hv).2) u hu⟩, g4⟩
    · obtain ⟨x1, e1, c1, b1, hw, hx, heq⟩ := ref all hR e c box
      rw [if_pos (by rw [hw.1, he']; rfl), hx he'] at heq
      obtain ⟨all', a1, a2⟩ := lay21 (N := N) (B := B') (e := e1) (c := c1) (r := nI a) (box := b1) hS hw.2 (sn S) 0 N all (by omega) (by omega) (by
        obtain ⟨h1, h2, h3, h4⟩ := hR
        refine ⟨h1, h2, fun v hv => ?_, h4⟩
        show _ = Int32.ofInt (if v < 0 then B'.1 v else sl S v) ∧ _ = Int32.ofInt (if v < 0 then B'.2.1 v else sh S v)
        rw [if_neg (by omega), if_neg (by omega)]
        exact h3 v hv)
      exact ⟨e1, c1, all', b1, heq.trans a1, a2⟩
/-! the reference's box and 'empty' don't hang on its 'cut' -/
def prj : Int32 → Int32 → (Nat → Int32) → Option (Int32 × (Nat → Int32)) := fun e _ b => some (e, b)
def ind (o1 o2 : Option (Int32 × Int32 × (Nat → Int32))) : Prop := o_b3 o1 prj = o_b3 o2 prj
theorem ind_some {e c1 c2 : Int32} {b : Nat → Int32} : ind (some (e, c1, b)) (some (e, c2, b)) := rfl
theorem ind_rf {o : Option (Int32 × Int32 × (Nat → Int32))} : ind o o := rfl
theorem ind_if {p : Prop} [Decidable p] {a1 a2 b1 b2 : Option (Int32 × Int32 × (Nat → Int32))} (h1 : ind a1 a2) (h2 : ind b1 b2) : ind (if p then a1 else b1) (if p then a2 else b2) := by
  by_cases g : p
  · rw [if_pos g, if_pos g]
    exact h1
  · rw [if_neg g, if_neg g]
    exact h2
theorem ind_b1 {α : Type} {o : Option α} {k1 k2 : α → Option (Int32 × Int32 × (Nat → Int32))} (h : ∀ a, ind (k1 a) (k2 a)) : ind (o_b1 o k1) (o_b1 o k2) := by
  cases o with
  | none => rfl
  | some a => exact h a
theorem ind_b3 {o1 o2 : Option (Int32 × Int32 × (Nat → Int32))} {k1 k2 : Int32 → Int32 → (Nat → Int32) → Option (Int32 × Int32 × (Nat → Int32))} (h0 : ind o1 o2) (h : ∀ e c1 c2 b, ind (k1 e c1 b) (k2 e c2 b)) : ind (o_b3 o1 k1) (o_b3 o2 k2) := by
  rcases o1 with _ | ⟨e1, c1, b1⟩
  · rcases o2 with _ | ⟨e2, c2, b2⟩
    · rfl
    · cases h0
  · rcases o2 with _ | ⟨e2, c2, b2⟩
    · cases h0
    · have h1 : some (e1, b1) = some (e2, b2) := h0
      have h2 := Option.some.inj h1
      have h3 : e1 = e2 := congrArg Prod.fst h2
      have h4 : b1 = b2 := congrArg Prod.snd h2
      subst h3
      subst h4
      exact h e1 c1 c2 b1
theorem ind_107 {e c1 c2 z1 z2 : Int32} {b : Nat → Int32} {u : Int32} {x y : Int64} (h1 : o_zb z1 = true) (h2 : o_zb z2 = true) : ind (f_X8_keeps_B107 e c1 b u x y z1) (f_X8_keeps_B107 e c2 b u x y z2) := by
  unfold f_X8_keeps_B107 o_in
  rw [h1, h2, o_ck_true, o_ck_true]
  exact ind_if rfl (ind_if rfl rfl)
theorem ind_54 {e c1 c2 : Int32} {b : Nat → Int32} {u v w : Int32} {x y : Int64} (hl : f_X8_low b u = some v) (hh : f_X8_high b u = some w) : ind (f_X8_keeps_B54 e c1 b u x y) (f_X8_keeps_B54 e c2 b u x y) := by
  unfold f_X8_keeps_B54 f_X8_keeps_B102
  rw [hl, hh]
  refine ind_if ?_ ind_some
  simp only [o_b1_some]
  by_cases g1 : c1 = 0
  · rw [if_pos g1]
    by_cases g2 : c2 = 0
    · rw [if_pos g2]
      exact ind_if (ind_if (ind_107 (by decide) (by decide)) (ind_107 (by decide) (by decide))) (ind_107 (by decide) (by decide))
    · rw [if_neg g2]
      by_cases g3 : lg_cmp x v.toInt64 = 0
      · rw [if_pos g3]
        by_cases g4 : lg_cmp y w.toInt64 = 0
        · rw [if_pos g4]
          exact ind_107 (by decide) (by decide)
        · rw [if_neg g4]
          exact ind_107 (by decide) (by decide)
      · rw [if_neg g3]
        exact ind_107 (by decide) (by decide)
  · rw [if_neg g1]
    by_cases g2 : c2 = 0
    · rw [if_pos g2]
      by_cases g3 : lg_cmp x v.toInt64 = 0
      · rw [if_pos g3]
        by_cases g4 : lg_cmp y w.toInt64 = 0
        · rw [if_pos g4]
          exact ind_107 (by decide) (by decide)
        · rw [if_neg g4]
          exact ind_107 (by decide) (by decide)
      · rw [if_neg g3]
        exact ind_107 (by decide) (by decide)
    · rw [if_neg g2]
      exact ind_107 (by decide) (by decide)
theorem ind_keeps (e c1 c2 : Int32) (b : Nat → Int32) (u : Int32) (x y : Int64) : ind (f_X8_keeps e c1 b u x y) (f_X8_keeps e c2 b u x y) := by
  unfold f_X8_keeps f_X8_keeps_B29
  refine ind_if ?_ ind_some
  rcases hl : f_X8_low b u with _ | v
  · rfl
  · rcases hh : f_X8_high b u with _ | w
    · simp only [o_b1_some]
      exact ind_if rfl rfl
    · simp only [o_b1_some]
      exact ind_if (ind_if (ind_54 hl hh) (ind_54 hl hh)) (ind_if (ind_54 hl hh) (ind_54 hl hh))
theorem ind_summand (N : Nat) (e c1 c2 : Int32) (b : Nat → Int32) (u o z : Int32) : ind (f_X8_keepsSummand N e c1 b u o z) (f_X8_keepsSummand N e c2 b u o z) := by
  unfold f_X8_keepsSummand
  refine ind_if ?_ ind_some
  repeat' first | exact ind_b3 (ind_keeps _ _ _ _ _ _ _) (fun e c1 c2 b => ind_some) | refine ind_b1 (fun _ => ?_)
theorem ind_factor (N : Nat) (e c1 c2 : Int32) (b : Nat → Int32) (u o z : Int32) : ind (f_X8_keepsFactor N e c1 b u o z) (f_X8_keepsFactor N e c2 b u o z) := by
  have k282 : ∀ x y, ind (f_X8_keepsFactor_B282 N e c1 b u x y) (f_X8_keepsFactor_B282 N e c2 b u x y) := fun x y => by
    unfold f_X8_keepsFactor_B282
    exact ind_b3 (ind_keeps _ _ _ _ _ _ _) (fun e c1 c2 b => ind_some)
  have k149 : ∀ x y, ind (f_X8_keepsFactor_B149 N e c1 b u o z x y) (f_X8_keepsFactor_B149 N e c2 b u o z x y) := fun x y => by
    unfold f_X8_keepsFactor_B149 f_X8_keepsFactor_B174 f_X8_keepsFactor_B253 f_X8_keepsFactor_B255 f_X8_keepsFactor_B278 f_X8_keepsFactor_B280
    repeat' first | exact k282 _ _ | refine ind_b1 (fun _ => ?_) | refine ind_if ?_ ?_
  unfold f_X8_keepsFactor f_X8_keepsFactor_B43 f_X8_keepsFactor_B120 f_X8_keepsFactor_B122 f_X8_keepsFactor_B145 f_X8_keepsFactor_B147
  repeat' first | exact k149 _ _ | exact ind_some | refine ind_b1 (fun _ => ?_) | refine ind_if ?_ ?_
theorem ind_product (N : Nat) : ∀ (F : Nat) (e c1 c2 : Int32) (b : Nat → Int32) (x y z m M j : Int32), ind (f_X8_cutsProduct_L11 N F e c1 b x y z m M j) (f_X8_cutsProduct_L11 N F e c2 b x y z m M j) := by
  intro F
  induction F with
  | zero =>
    intros
    rfl
  | succ F ih =>
    intro e c1 c2 b x y z m M j
    rw [show f_X8_cutsProduct_L11 N (F + 1) = f_X8_cutsProduct_C11 N (f_X8_cutsProduct_L11 N F) from rfl]
    unfold f_X8_cutsProduct_C11 f_X8_cutsProduct_B36 f_X8_cutsProduct_B56 f_X8_cutsProduct_B75 f_X8_cutsProduct_B91
    refine ind_if ?_ ?_
    · exact ind_b3 (ind_keeps _ _ _ _ _ _ _) (fun e c1 c2 b => ind_b3 (ind_factor _ _ _ _ _ _ _ _) (fun e c1 c2 b => ind_b3 (ind_factor _ _ _ _ _ _ _ _) (fun e c1 c2 b => ind_some)))
    · repeat' first | exact ih _ _ _ _ _ _ _ _ _ _ | refine ind_b1 (fun _ => ?_) | refine ind_if ?_ ?_
theorem ind_atMost (e c1 c2 : Int32) (b : Nat → Int32) (u o z : Int32) : ind (f_X8_keepsAtMost e c1 b u o z) (f_X8_keepsAtMost e c2 b u o z) := by
  unfold f_X8_keepsAtMost f_X8_keepsAtMost_B35
  repeat' first | exact ind_b3 (ind_keeps _ _ _ _ _ _ _) (fun e c1 c2 b => ind_some) | exact ind_some | refine ind_b1 (fun _ => ?_) | refine ind_if ?_ ?_
theorem ind_same (e c1 c2 : Int32) (b : Nat → Int32) (u o : Int32) : ind (f_X8_keepsSame e c1 b u o) (f_X8_keepsSame e c2 b u o) := by
  unfold f_X8_keepsSame f_X8_keepsSame_B35 f_X8_keepsSame_B48
  repeat' first | exact ind_b3 (ind_keeps _ _ _ _ _ _ _) (fun e c1 c2 b => ind_some) | exact ind_some | refine ind_b1 (fun _ => ?_) | refine ind_if ?_ ?_
theorem ind_turned (e c1 c2 : Int32) (b : Nat → Int32) (u o : Int32) : ind (f_X8_keepsTurned e c1 b u o) (f_X8_keepsTurned e c2 b u o) := by
  unfold f_X8_keepsTurned
  repeat' first | exact ind_b3 (ind_keeps _ _ _ _ _ _ _) (fun e c1 c2 b => ind_some) | exact ind_some | refine ind_b1 (fun _ => ?_) | refine ind_if ?_ ?_
theorem ind_less (e c1 c2 : Int32) (b : Nat → Int32) (u o : Int32) : ind (f_X8_cutsLess e c1 b u o) (f_X8_cutsLess e c2 b u o) := by
  have k28 : ∀ x y z, ind (f_X8_cutsLess_B28 e c1 b u o x y z) (f_X8_cutsLess_B28 e c2 b u o x y z) := fun x y z => by
    unfold f_X8_cutsLess_B28 f_X8_cutsLess_B64
    refine ind_b3 (ind_keeps _ _ _ _ _ _ _) (fun e c1 c2 b => ?_)
    repeat' first | exact ind_b3 (ind_keeps _ _ _ _ _ _ _) (fun e c1 c2 b => ind_some) | exact ind_some | refine ind_b1 (fun _ => ?_) | refine ind_if ?_ ?_
  unfold f_X8_cutsLess
  repeat' first | exact k28 _ _ _ | refine ind_b1 (fun _ => ?_) | refine ind_if ?_ ?_
theorem ind_most (e c1 c2 : Int32) (b : Nat → Int32) (u o z : Int32) : ind (f_X8_cutsMost e c1 b u o z) (f_X8_cutsMost e c2 b u o z) := by
  have k54 : ∀ x y, ind (f_X8_cutsMost_B54 e c1 b u o z x y) (f_X8_cutsMost_B54 e c2 b u o z x y) := fun x y => by
    unfold f_X8_cutsMost_B54
    exact ind_b3 (ind_keeps _ _ _ _ _ _ _) (fun e c1 c2 b => ind_b3 (ind_atMost _ _ _ _ _ _ _) (fun e c1 c2 b => ind_b3 (ind_atMost _ _ _ _ _ _ _) (fun e c1 c2 b => ind_some)))
  unfold f_X8_cutsMost f_X8_cutsMost_B26
  repeat' first | exact k54 _ _ | refine ind_b1 (fun _ => ?_) | refine ind_if ?_ ?_
theorem ind_sum (N : Nat) (e c1 c2 : Int32) (b : Nat → Int32) (u o z : Int32) : ind (f_X8_cutsSum N e c1 b u o z) (f_X8_cutsSum N e c2 b u o z) := by
  unfold f_X8_cutsSum
  repeat' first | exact ind_b3 (ind_keeps _ _ _ _ _ _ _) (fun e c1 c2 b => ind_b3 (ind_summand _ _ _ _ _ _ _ _) (fun e c1 c2 b => ind_b3 (ind_summand _ _ _ _ _ _ _ _) (fun e c1 c2 b => ind_some))) | refine ind_b1 (fun _ => ?_)
theorem ind_stR (N : Nat) (kd x y z e c1 c2 : Int32) (b : Nat → Int32) : ind (stR N kd x y z e c1 b) (stR N kd x y z e c2 b) := by
  unfold stR
  refine ind_if (ind_sum _ _ _ _ _ _ _ _) (ind_if ?_ (ind_if (ind_most _ _ _ _ _ _ _) (ind_if (ind_less _ _ _ _ _ _) (ind_if ?_ ?_))))
  · unfold f_X8_cutsProduct
    exact ind_product _ _ _ _ _ _ _ _ _ _ _ _
  · exact ind_b3 (ind_same _ _ _ _ _ _) (fun e c1 c2 b => ind_same _ _ _ _ _ _)
  · exact ind_b3 (ind_turned _ _ _ _ _ _) (fun e c1 c2 b => ind_turned _ _ _ _ _ _)
/-! what one rule would leave -/
theorem would_both {S : mS} {N k : Nat} (hS : mOK S) (hN : 40 ≤ N) (hk : k < sm S) : ∃ B' : aB, aOK (sn S) B' ∧
    (∀ un ru l h kd x y z, mC S un ru l h kd x y z → ∀ c e cl ch, ∃ r c' e' l' h', f_X0_cutByRules N x y z kd c e (va_cpy l cl 0 0 6) (va_cpy h ch 0 0 6) (nI k) (nI (k + 1)) 1 = some (r, c', e', l', h') ∧ aCw (sn S) B' e' l' h' ∧ (B'.2.2.2 = true → r = -2139095049) ∧ (B'.2.2.2 = false → r = 1)) ∧
    (∀ all, mR S all → ∀ e c box, ∃ b1 e' c' b', f_X8_laysBox N all e box = some (0, b1) ∧ f_X8_cutsBy N all 0 c b1 (nI k) = some (e', c', b') ∧ aRw (sn S) B' e' b') := by
  have hn := hS.1
  have hm := hS.2.1
  obtain ⟨v1, v2, v3, v4⟩ := hS.2.2.2 k hk
  obtain ⟨B1, ok1, c1, r1⟩ := step_both (N := N) (B := nowB S) hn hN v1 v2 v3 v4 hS.2.2.1
  refine ⟨B1, ok1, fun un ru l h kd x y z hC c e cl ch => ?_, fun all hR e c box => ?_⟩
  · obtain ⟨g1, g2, g3, g4⟩ := hC
    obtain ⟨ca, ea, la, ha, hea, hCa⟩ := c1 0 0 (va_cpy l cl 0 0 6) (va_cpy h ch 0 0 6) ⟨rfl, rfl, fun u hu => ⟨cpy6 (k := 0) (L := sl S) hn (fun v hv => by rw [Nat.zero_add]; exact (g3 v hv).1) u hu, cpy6 (k := 0) (L := sh S) hn (fun v hv => by rw [Nat.zero_add]; exact (g3 v hv).2) u hu⟩⟩
    obtain ⟨N', rfl⟩ : ∃ N', N = N' + 2 := ⟨N - 2, by omega⟩
    have hlt : ¬ nI (k + 1) ≤ nI k := fun q => by
      have := (nI_leI (by omega) (by omega)).mp q
      omega
    have body : f_X0_cutByRules (N' + 2) x y z kd c e (va_cpy l cl 0 0 6) (va_cpy h ch 0 0 6) (nI k) (nI (k + 1)) 1 = f_X0_cutByRules_B199 (N' + 2) x y z kd (f_X0_cutByRules_L8 (N' + 2) x y z kd (N' + 1)) ca ea la ha (nI k) (nI (k + 1)) 1 1 := by
      unfold f_X0_cutByRules
      rw [show f_X0_cutByRules_L8 (N' + 2) x y z kd (N' + 2) = f_X0_cutByRules_C8 (N' + 2) x y z kd (f_X0_cutByRules_L8 (N' + 2) x y z kd (N' + 1)) from rfl]
      unfold f_X0_cutByRules_C8
      rw [if_neg (by decide), show f_X0_cutByRules_L23 (N' + 2) x y z kd (f_X0_cutByRules_L8 (N' + 2) x y z kd (N' + 1)) (N' + 2) = f_X0_cutByRules_C23 (N' + 2) x y z kd (f_X0_cutByRules_L8 (N' + 2) x y z kd (N' + 1)) (f_X0_cutByRules_L23 (N' + 2) x y z kd (f_X0_cutByRules_L8 (N' + 2) x y z kd (N' + 1)) (N' + 1)) from rfl, z_C23 hS g4 hk hlt rfl, hea, o_b4_some, show f_X0_cutByRules_L23 (N' + 2) x y z kd (f_X0_cutByRules_L8 (N' + 2) x y z kd (N' + 1)) (N' + 1) = f_X0_cutByRules_C23 (N' + 2) x y z kd (f_X0_cutByRules_L8 (N' + 2) x y z kd (N' + 1)) (f_X0_cutByRules_L23 (N' + 2) x y z kd (f_X0_cutByRules_L8 (N' + 2) x y z kd (N' + 1)) N') from rfl]
      unfold f_X0_cutByRules_C23
      rw [if_pos ((nI_leI (by omega) (by omega)).mpr (by omega))]
    rw [body]
    unfold f_X0_cutByRules_B199
    by_cases he : B1.2.2.2 = false
    · rw [if_pos ((aC_e hCa).mpr he)]
      by_cases hc : ca = 0
      · rw [if_pos hc]
        exact ⟨1, ca, ea, la, ha, rfl, hCa.2, fun q => absurd (he.symm.trans q) (by decide), fun _ => rfl⟩
      · rw [if_neg hc, show f_X0_cutByRules_L8 (N' + 2) x y z kd (N' + 1) = f_X0_cutByRules_C8 (N' + 2) x y z kd (f_X0_cutByRules_L8 (N' + 2) x y z kd N') from rfl]
        unfold f_X0_cutByRules_C8
        rw [if_pos (by decide)]
        exact ⟨1, ca, ea, la, ha, rfl, hCa.2, fun q => absurd (he.symm.trans q) (by decide), fun _ => rfl⟩
    · rw [if_neg (fun q => he ((aC_e hCa).mp q))]
      exact ⟨_, ca, ea, la, ha, rfl, hCa.2, fun _ => rfl, fun q => absurd q he⟩
  · obtain ⟨b1, hb1, hb2⟩ := y_lays (N := N) hS hN hR e box
    obtain ⟨ea, ca, ba, hea, hRa⟩ := r1 0 0 b1 ⟨rfl, hb2.1, hb2.2⟩
    have hi := ind_stR N (nI (sk S k)) (nI (sx S k)) (nI (sy S k)) (nI (sz S k)) 0 c 0 b1
    rw [hea] at hi
    rcases ho : stR N (nI (sk S k)) (nI (sx S k)) (nI (sy S k)) (nI (sz S k)) 0 c b1 with _ | ⟨e2, c2, b2⟩
    · rw [ho] at hi
      cases hi
    · rw [ho] at hi
      have h1 : some (e2, b2) = some (ea, ba) := hi
      have h2 := Option.some.inj h1
      have h3 : e2 = ea := congrArg Prod.fst h2
      have h4 : b2 = ba := congrArg Prod.snd h2
      exact ⟨b1, e2, c2, b2, hb1, (y_cutsBy hS hR hk).trans ho, by rw [h3, h4]; exact hRa.2⟩
