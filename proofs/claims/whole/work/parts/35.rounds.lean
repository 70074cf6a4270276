/-! ===== the state's model: unknowns, rules; rounds of cutting ===== -/
abbrev mS : Type := Nat × Nat × (Nat → Int) × (Nat → Int) × (Nat → Nat) × (Nat → Nat) × (Nat → Nat) × (Nat → Nat)
def sn (S : mS) : Nat := S.1
def sm (S : mS) : Nat := S.2.1
def sl (S : mS) : Nat → Int := S.2.2.1
def sh (S : mS) : Nat → Int := S.2.2.2.1
def sk (S : mS) : Nat → Nat := S.2.2.2.2.1
def sx (S : mS) : Nat → Nat := S.2.2.2.2.2.1
def sy (S : mS) : Nat → Nat := S.2.2.2.2.2.2.1
def sz (S : mS) : Nat → Nat := S.2.2.2.2.2.2.2
def mOK (S : mS) : Prop := sn S ≤ 6 ∧ sm S ≤ 6 ∧ (∀ u, u < sn S → isP (sl S u) ∧ isP (sh S u) ∧ sl S u ≤ sh S u) ∧ (∀ k, k < sm S → sk S k ≤ 5 ∧ sx S k < sn S ∧ sy S k < sn S ∧ sz S k < sn S)
def uC (S : mS) (l h : Nat → Int32) : Prop := ∀ u, u < sn S → l u = Int32.ofInt (sl S u) ∧ h u = Int32.ofInt (sh S u)
def rC (S : mS) (kd x y z : Nat → Int32) : Prop := ∀ k, k < sm S → kd k = nI (sk S k) ∧ x k = nI (sx S k) ∧ y k = nI (sy S k) ∧ z k = nI (sz S k)
def mC (S : mS) (un ru : Int32) (l h kd x y z : Nat → Int32) : Prop := un = nI (sn S) ∧ ru = nI (sm S) ∧ uC S l h ∧ rC S kd x y z
def mR (S : mS) (all : Nat → Int32) : Prop := all 0 = nI (sn S) ∧ all 13 = nI (sm S) ∧ (∀ u, u < sn S → all (1 + 2 * u) = Int32.ofInt (sl S u) ∧ all (2 + 2 * u) = Int32.ofInt (sh S u)) ∧ (∀ k, k < sm S → all (14 + 4 * k) = nI (sk S k) ∧ all (15 + 4 * k) = nI (sx S k) ∧ all (16 + 4 * k) = nI (sy S k) ∧ all (17 + 4 * k) = nI (sz S k))
theorem y_rules {S : mS} {all : Nat → Int32} (hR : mR S all) : f_X8_rules all = some (nI (sm S)) := by
  rw [← hR.2.1]
  rfl
theorem y_unknowns {S : mS} {all : Nat → Int32} (hR : mR S all) : f_X8_unknowns all = some (nI (sn S)) := by
  rw [← hR.1]
  rfl
theorem o_inN {β : Type} {i n : Nat} (h : i < n) (hn : n < 2 ^ 31) (k : Option β) : o_in (nI i) n k = k := if_neg (vp_in_nI h hn)
theorem y_ruleAt {all : Nat → Int32} {k j : Nat} (hk : k < 6) (hj : j < 4) : f_X8_ruleAt all (nI k) (nI j) = some (all (14 + 4 * k + j)) := by
  unfold f_X8_ruleAt
  have e : ((14 : Int32) + 4 * nI k) + nI j = nI (14 + 4 * k + j) := by
    rw [show (14 : Int32) = nI 14 from rfl, show (4 : Int32) = nI 4 from rfl, pk_mul, nI_add, nI_add]
  rw [e, o_inN (by omega) (by decide), nI_clamp (by omega)]
theorem y_rule0 {S : mS} {all : Nat → Int32} {k : Nat} (hS : mOK S) (hR : mR S all) (hk : k < sm S) : f_X8_ruleAt all (nI k) 0 = some (nI (sk S k)) := by
  have h6 := hS.2.1
  have := y_ruleAt (all := all) (k := k) (j := 0) (by omega) (by decide)
  rw [show 14 + 4 * k + 0 = 14 + 4 * k by omega, (hR.2.2.2 k hk).1] at this
  exact this
theorem y_rule1 {S : mS} {all : Nat → Int32} {k : Nat} (hS : mOK S) (hR : mR S all) (hk : k < sm S) : f_X8_ruleAt all (nI k) 1 = some (nI (sx S k)) := by
  have h6 := hS.2.1
  have := y_ruleAt (all := all) (k := k) (j := 1) (by omega) (by decide)
  rw [show 14 + 4 * k + 1 = 15 + 4 * k by omega, (hR.2.2.2 k hk).2.1] at this
  exact this
theorem y_rule2 {S : mS} {all : Nat → Int32} {k : Nat} (hS : mOK S) (hR : mR S all) (hk : k < sm S) : f_X8_ruleAt all (nI k) 2 = some (nI (sy S k)) := by
  have h6 := hS.2.1
  have := y_ruleAt (all := all) (k := k) (j := 2) (by omega) (by decide)
  rw [show 14 + 4 * k + 2 = 16 + 4 * k by omega, (hR.2.2.2 k hk).2.2.1] at this
  exact this
theorem y_rule3 {S : mS} {all : Nat → Int32} {k : Nat} (hS : mOK S) (hR : mR S all) (hk : k < sm S) : f_X8_ruleAt all (nI k) 3 = some (nI (sz S k)) := by
  have h6 := hS.2.1
  have := y_ruleAt (all := all) (k := k) (j := 3) (by omega) (by decide)
  rw [show 14 + 4 * k + 3 = 17 + 4 * k by omega, (hR.2.2.2 k hk).2.2.2] at this
  exact this
theorem o_b3_id {A1 A2 A3 : Type} (o : Option (A1 × A2 × A3)) : o_b3 o (fun a b c => some (a, b, c)) = o := by
  rcases o with _ | ⟨a, b, c⟩ <;> rfl
theorem o_b4_assoc {A1 A2 A3 A4 B1 B2 B3 B4 β : Type} (o : Option (A1 × A2 × A3 × A4)) (f : A1 → A2 → A3 → A4 → Option (B1 × B2 × B3 × B4)) (g : B1 → B2 → B3 → B4 → Option β) : o_b4 (o_b4 o f) g = o_b4 o (fun a b c d => o_b4 (f a b c d) g) := by
  rcases o with _ | ⟨a, b, c, d⟩ <;> rfl
theorem y_cutsBy {S : mS} {all : Nat → Int32} {N k : Nat} {e c : Int32} {b : Nat → Int32} (hS : mOK S) (hR : mR S all) (hk : k < sm S) : f_X8_cutsBy N all e c b (nI k) = stR N (nI (sk S k)) (nI (sx S k)) (nI (sy S k)) (nI (sz S k)) e c b := by
  unfold f_X8_cutsBy stR
  rw [y_rule0 hS hR hk, y_rule1 hS hR hk, y_rule2 hS hR hk, y_rule3 hS hR hk, o_b1_some, o_b1_some, o_b1_some, o_b1_some]
  simp only [o_b3_id]
theorem z_C23 {S : mS} {N k : Nat} {kd x y z : Nat → Int32} (hS : mOK S) (hC : rC S kd x y z) (hk : k < sm S) {k8 : Int32 → Int32 → (Nat → Int32) → (Nat → Int32) → Int32 → Int32 → Int32 → Int32 → Option (Int32 × Int32 × Int32 × (Nat → Int32) × (Nat → Int32))} {k23 : Int32 → Int32 → (Nat → Int32) → (Nat → Int32) → Int32 → Int32 → Int32 → Int32 → Int32 → Option (Int32 × Int32 × Int32 × (Nat → Int32) × (Nat → Int32))} {c e x2 x3 x4 x5 : Int32} {l h : Nat → Int32} (h3 : ¬ x3 ≤ nI k) (he : e = 0) :
    f_X0_cutByRules_C23 N x y z kd k8 k23 c e l h x2 x3 x4 x5 (nI k) = o_b4 (stC N (nI (sk S k)) (nI (sx S k)) (nI (sy S k)) (nI (sz S k)) c e l h) (fun c' e' l' h' => k23 c' e' l' h' x2 x3 x4 x5 (nI (k + 1))) := by
  obtain ⟨h1, h2, h3', h4⟩ := hC k hk
  have h6 := hS.2.1
  unfold f_X0_cutByRules_C23 f_X0_cutByRules_B193 stC
  rw [if_neg h3, if_pos he, o_inN (by omega) (by decide)]
  simp only [o_nm]
  rw [o_inN (by omega) (by decide), o_inN (by omega) (by decide), o_inN (by omega) (by decide), nI_clamp (by omega), h1, h2, h3', h4, nI_1]
  generalize nI (sk S k) = q
  by_cases g0 : q = 0
  · rw [if_pos g0, if_pos g0]
  · rw [if_neg g0, if_neg g0]
    by_cases g1 : q = 1
    · rw [if_pos g1, if_pos g1]
      simp only [o_b4_assoc, o_b4_some]
    · rw [if_neg g1, if_neg g1]
      by_cases g2 : q = 2
      · rw [if_pos g2, if_pos g2]
      · rw [if_neg g2, if_neg g2]
        by_cases g3 : q = 3
        · rw [if_pos g3, if_pos g3]
        · rw [if_neg g3, if_neg g3]
          by_cases g4 : q = 4
          · rw [if_pos g4, if_pos g4]
          · rw [if_neg g4, if_neg g4]
            simp only [o_b4_assoc, o_b4_some]
theorem inner {S : mS} {N : Nat} (hS : mOK S) (hN : 40 ≤ N) : ∀ (j k F : Nat) (B : aB), k + j = sm S → j < F → aOK (sn S) B → ∃ B', aOK (sn S) B' ∧
    (∀ kd x y z, rC S kd x y z → ∀ k8 c e l h x2 x4 x5, aC (sn S) B c e l h → ∃ c' e' l' h', f_X0_cutByRules_L23 N x y z kd k8 F c e l h x2 (nI (sm S)) x4 x5 (nI k) = f_X0_cutByRules_B199 N x y z kd k8 c' e' l' h' x2 (nI (sm S)) x4 x5 ∧ aC (sn S) B' c' e' l' h') ∧
    (∀ all, mR S all → ∀ k7 e c b x1, aR (sn S) B e c b → ∃ e' c' b', f_X8_cutsAll_L34 N all k7 F e c b x1 (nI k) = f_X8_cutsAll_B60 N all k7 e' c' b' x1 ∧ aR (sn S) B' e' c' b') := by
  have h6 := hS.2.1
  intro j
  induction j with
  | zero =>
    intro k F B hkj hF hB
    obtain ⟨F', rfl⟩ : ∃ F', F = F' + 1 := ⟨F - 1, by omega⟩
    have hk : k = sm S := by omega
    refine ⟨B, hB, fun kd x y z hC k8 c e l h x2 x4 x5 ha => ⟨c, e, l, h, ?_, ha⟩, fun all hR k7 e c b x1 ha => ⟨e, c, b, ?_, ha⟩⟩
    · rw [show f_X0_cutByRules_L23 N x y z kd k8 (F' + 1) = f_X0_cutByRules_C23 N x y z kd k8 (f_X0_cutByRules_L23 N x y z kd k8 F') from rfl]
      unfold f_X0_cutByRules_C23
      rw [if_pos ((nI_leI (by omega) (by omega)).mpr (by omega))]
    · rw [show f_X8_cutsAll_L34 N all k7 (F' + 1) = f_X8_cutsAll_C34 N all k7 (f_X8_cutsAll_L34 N all k7 F') from rfl]
      unfold f_X8_cutsAll_C34
      rw [y_rules hR, o_b1_some, if_pos ((nI_leI (by omega) (by omega)).mpr (by omega))]
  | succ j ih =>
    intro k F B hkj hF hB
    obtain ⟨F', rfl⟩ : ∃ F', F = F' + 1 := ⟨F - 1, by omega⟩
    have hk : k < sm S := by omega
    have hlt : ¬ nI (sm S) ≤ nI k := fun q => by
      have := (nI_leI (by omega) (by omega)).mp q
      omega
    by_cases he : B.2.2.2 = false
    · obtain ⟨v1, v2, v3, v4⟩ := hS.2.2.2 k hk
      obtain ⟨B1, ok1, c1, r1⟩ := step_both (N := N) hS.1 hN v1 v2 v3 v4 hB
      obtain ⟨B', ok', c', r'⟩ := ih (k + 1) F' B1 (by omega) (by omega) ok1
      refine ⟨B', ok', fun kd x y z hC k8 c e l h x2 x4 x5 ha => ?_, fun all hR k7 e c b x1 ha => ?_⟩
      · obtain ⟨ca, ea, la, ha', hea, hCa⟩ := c1 c e l h ha
        obtain ⟨cb, eb, lb, hb, heb, hCb⟩ := c' kd x y z hC k8 ca ea la ha' x2 x4 x5 hCa
        refine ⟨cb, eb, lb, hb, ?_, hCb⟩
        rw [show f_X0_cutByRules_L23 N x y z kd k8 (F' + 1) = f_X0_cutByRules_C23 N x y z kd k8 (f_X0_cutByRules_L23 N x y z kd k8 F') from rfl, z_C23 hS hC hk hlt ((aC_e ha).mpr he), hea, o_b4_some, heb]
      · obtain ⟨ea, ca, ba, hea, hRa⟩ := r1 e c b ha
        obtain ⟨eb, cb, bb, heb, hRb⟩ := r' all hR k7 ea ca ba x1 hRa
        refine ⟨eb, cb, bb, ?_, hRb⟩
        rw [show f_X8_cutsAll_L34 N all k7 (F' + 1) = f_X8_cutsAll_C34 N all k7 (f_X8_cutsAll_L34 N all k7 F') from rfl]
        unfold f_X8_cutsAll_C34
        rw [y_rules hR, o_b1_some, if_neg hlt, if_pos ((aR_e ha).mpr he), y_cutsBy hS hR hk, hea, o_b3_some, nI_1, heb]
    · refine ⟨B, hB, fun kd x y z hC k8 c e l h x2 x4 x5 ha => ⟨c, e, l, h, ?_, ha⟩, fun all hR k7 e c b x1 ha => ⟨e, c, b, ?_, ha⟩⟩
      · rw [show f_X0_cutByRules_L23 N x y z kd k8 (F' + 1) = f_X0_cutByRules_C23 N x y z kd k8 (f_X0_cutByRules_L23 N x y z kd k8 F') from rfl]
        unfold f_X0_cutByRules_C23
        rw [if_neg hlt, if_neg (fun q => he ((aC_e ha).mp q))]
      · rw [show f_X8_cutsAll_L34 N all k7 (F' + 1) = f_X8_cutsAll_C34 N all k7 (f_X8_cutsAll_L34 N all k7 F') from rfl]
        unfold f_X8_cutsAll_C34
        rw [y_rules hR, o_b1_some, if_neg hlt, if_neg (fun q => he ((aR_e ha).mp q))]
/-! rounds -/
def aCw (n : Nat) (B : aB) (e : Int32) (l h : Nat → Int32) : Prop := e = bI B.2.2.2 ∧ ∀ u, u < n → l u = Int32.ofInt (B.1 u) ∧ h u = Int32.ofInt (B.2.1 u)
def aRw (n : Nat) (B : aB) (e : Int32) (box : Nat → Int32) : Prop := e = bI B.2.2.2 ∧ ∀ u, u < n → box (2 * u) = Int32.ofInt (B.1 u) ∧ box (2 * u + 1) = Int32.ofInt (B.2.1 u)
def aF (B : aB) : aB := (B.1, B.2.1, false, B.2.2.2)
def fin (B : aB) (a : Nat) : Int32 := if B.2.2.2 = true then -2139095049 else nI a
theorem outer {S : mS} {N : Nat} (hS : mOK S) (hN : 40 ≤ N) : ∀ (j r F : Nat) (B : aB), r + j = 12 → j < F → aOK (sn S) B → B.2.2.2 = false → ∃ B' a, a ≤ 12 ∧ aOK (sn S) B' ∧
    (∀ kd x y z, rC S kd x y z → ∀ c e l h, aCw (sn S) B e l h → ∃ c' e' l' h', f_X0_cutByRules_L8 N x y z kd F c e l h 0 (nI (sm S)) 12 (nI (r + 1)) = some (fin B' a, c', e', l', h') ∧ aCw (sn S) B' e' l' h') ∧
    (∀ all, mR S all → ∀ e b, aRw (sn S) B e b → ∃ x' e' c' b', f_X8_cutsAll_L7 N all F e 1 b (nI r) = some (x', e', c', b') ∧ aRw (sn S) B' e' b' ∧ (B'.2.2.2 = false → x' = nI a)) := by
  have h6 := hS.2.1
  intro j
  induction j with
  | zero =>
    intro r F B hr hF hB he
    obtain ⟨F', rfl⟩ : ∃ F', F = F' + 1 := ⟨F - 1, by omega⟩
    have hr12 : r = 12 := by omega
    subst hr12
    refine ⟨B, 12, by omega, hB, fun kd x y z hC c e l h ha => ⟨c, e, l, h, ?_, ha⟩, fun all hR e b ha => ⟨12, e, 1, b, ?_, ha, fun _ => rfl⟩⟩
    · rw [show f_X0_cutByRules_L8 N x y z kd (F' + 1) = f_X0_cutByRules_C8 N x y z kd (f_X0_cutByRules_L8 N x y z kd F') from rfl]
      unfold f_X0_cutByRules_C8 fin
      rw [if_pos (by decide), if_neg (by rw [he]; decide)]
      rfl
    · rw [show f_X8_cutsAll_L7 N all (F' + 1) = f_X8_cutsAll_C7 N all (f_X8_cutsAll_L7 N all F') from rfl]
      unfold f_X8_cutsAll_C7
      rw [if_neg (by decide), if_pos (by rw [ha.1, he]; rfl), if_pos (by decide)]
      rfl
  | succ j ih =>
    intro r F B hr hF hB he
    obtain ⟨F', rfl⟩ : ∃ F', F = F' + 1 := ⟨F - 1, by omega⟩
    obtain ⟨B1, ok1, c1, r1⟩ := inner (N := N) hS hN (sm S) 0 N (aF B) (by omega) (by omega) hB
    have cl : ∀ kd x y z, rC S kd x y z → ∀ c e l h, aCw (sn S) B e l h → ∃ c' e' l' h', f_X0_cutByRules_L8 N x y z kd (F' + 1) c e l h 0 (nI (sm S)) 12 (nI (r + 1)) = f_X0_cutByRules_B199 N x y z kd (f_X0_cutByRules_L8 N x y z kd F') c' e' l' h' 0 (nI (sm S)) 12 (nI (r + 1)) ∧ aC (sn S) B1 c' e' l' h' := fun kd x y z hC c e l h ha => by
      obtain ⟨ca, ea, la, ha', hea, hCa⟩ := c1 kd x y z hC (f_X0_cutByRules_L8 N x y z kd F') 0 e l h 0 12 (nI (r + 1)) ⟨rfl, ha.1, ha.2⟩
      refine ⟨ca, ea, la, ha', ?_, hCa⟩
      rw [show f_X0_cutByRules_L8 N x y z kd (F' + 1) = f_X0_cutByRules_C8 N x y z kd (f_X0_cutByRules_L8 N x y z kd F') from rfl]
      unfold f_X0_cutByRules_C8
      have : ¬ ((12 : Int32) < nI (r + 1)) := fun q => by
        have := (nI_ltI (a := 12) (b := r + 1) (by decide) (by omega)).mp q
        omega
      rw [if_neg this]
      exact hea
    have rf : ∀ all, mR S all → ∀ e b, aRw (sn S) B e b → ∃ e' c' b', f_X8_cutsAll_L7 N all (F' + 1) e 1 b (nI r) = f_X8_cutsAll_L7 N all F' e' c' b' (nI (r + 1)) ∧ aR (sn S) B1 e' c' b' := fun all hR e b ha => by
      obtain ⟨ea, ca, ba, hea, hRa⟩ := r1 all hR (f_X8_cutsAll_L7 N all F') e 0 b (nI r) ⟨rfl, ha.1, ha.2⟩
      refine ⟨ea, ca, ba, ?_, hRa⟩
      rw [show f_X8_cutsAll_L7 N all (F' + 1) = f_X8_cutsAll_C7 N all (f_X8_cutsAll_L7 N all F') from rfl]
      unfold f_X8_cutsAll_C7
      have : ¬ ((12 : Int32) ≤ nI r) := fun q => by
        have := (nI_leI (a := 12) (b := r) (by decide) (by omega)).mp q
        omega
      rw [if_neg (by decide), if_pos (by rw [ha.1, he]; rfl), if_neg this]
      refine hea.trans ?_
      unfold f_X8_cutsAll_B60
      rw [nI_1]
    obtain ⟨F'', hF''⟩ : ∃ F'', F' = F'' + 1 := ⟨F' - 1, by omega⟩
    by_cases he1 : B1.2.2.2 = false
    · by_cases hc1 : B1.2.2.1 = false
      · refine ⟨B1, r + 1, by omega, ok1, fun kd x y z hC c e l h ha => ?_, fun all hR e b ha => ?_⟩
        · obtain ⟨c', e', l', h', heq, hCa⟩ := cl kd x y z hC c e l h ha
          refine ⟨c', e', l', h', ?_, hCa.2⟩
          rw [heq]
          unfold f_X0_cutByRules_B199 fin
          rw [if_pos ((aC_e hCa).mpr he1), if_pos (by rw [hCa.1, hc1]; rfl), if_neg (by rw [he1]; decide)]
        · obtain ⟨e', c', b', heq, hRa⟩ := rf all hR e b ha
          refine ⟨nI (r + 1), e', c', b', ?_, hRa.2, fun _ => rfl⟩
          rw [heq, hF'', show f_X8_cutsAll_L7 N all (F'' + 1) = f_X8_cutsAll_C7 N all (f_X8_cutsAll_L7 N all F'') from rfl]
          unfold f_X8_cutsAll_C7
          rw [if_pos (by rw [hRa.1, hc1]; rfl)]
      · have hc1' : B1.2.2.1 = true := by simpa using hc1
        obtain ⟨B', a, ha12, ok', c', r'⟩ := ih (r + 1) F' B1 (by omega) (by omega) ok1 he1
        refine ⟨B', a, ha12, ok', fun kd x y z hC c e l h ha => ?_, fun all hR e b ha => ?_⟩
        · obtain ⟨ca, ea, la, ha', heq, hCa⟩ := cl kd x y z hC c e l h ha
          obtain ⟨cb, eb, lb, hb, heb, hCb⟩ := c' kd x y z hC ca ea la ha' hCa.2
          refine ⟨cb, eb, lb, hb, ?_, hCb⟩
          rw [heq]
          unfold f_X0_cutByRules_B199
          rw [if_pos ((aC_e hCa).mpr he1), if_neg (by rw [hCa.1, hc1']; decide), nI_1]
          exact heb
        · obtain ⟨ea, ca, ba, heq, hRa⟩ := rf all hR e b ha
          obtain ⟨x', eb, cb, bb, heb, hRb⟩ := r' all hR ea ba hRa.2
          refine ⟨x', eb, cb, bb, ?_, hRb⟩
          rw [heq, hRa.1, hc1']
          exact heb
    · have he1' : B1.2.2.2 = true := by simpa using he1
      refine ⟨B1, r + 1, by omega, ok1, fun kd x y z hC c e l h ha => ?_, fun all hR e b ha => ?_⟩
      · obtain ⟨c', e', l', h', heq, hCa⟩ := cl kd x y z hC c e l h ha
        refine ⟨c', e', l', h', ?_, hCa.2⟩
        rw [heq]
        unfold f_X0_cutByRules_B199 fin
        rw [if_neg (fun q => he1 ((aC_e hCa).mp q)), if_pos he1']
      · obtain ⟨e', c', b', heq, hRa⟩ := rf all hR e b ha
        refine ⟨nI (r + 1), e', c', b', ?_, hRa.2, fun _ => rfl⟩
        rw [heq, hF'', show f_X8_cutsAll_L7 N all (F'' + 1) = f_X8_cutsAll_C7 N all (f_X8_cutsAll_L7 N all F'') from rfl]
        unfold f_X8_cutsAll_C7
        by_cases hc : c' = 0
        · rw [if_pos hc]
        · rw [if_neg hc, if_neg (fun q => he1 ((aR_e hRa).mp q))]
theorem cut_all {S : mS} {N : Nat} {B : aB} (hS : mOK S) (hN : 40 ≤ N) (hB : aOK (sn S) B) (he : B.2.2.2 = false) : ∃ B' a, a ≤ 12 ∧ aOK (sn S) B' ∧
    (∀ kd x y z, rC S kd x y z → ∀ c e l h, uC (sn S, sm S, B.1, B.2.1, sk S, sx S, sy S, sz S) l h → ∃ c' e' l' h', f_X0_cutByRules N x y z kd c e l h 0 (nI (sm S)) 12 = some (fin B' a, c', e', l', h') ∧ aCw (sn S) B' e' l' h') ∧
    (∀ all, mR S all → ∀ c b, aRw (sn S) B 0 b → ∃ x' e' c' b', f_X8_cutsAll N all 0 c b = some (x', e', c', b') ∧ aRw (sn S) B' e' b' ∧ (B'.2.2.2 = false → x' = nI a)) := by
  obtain ⟨B', a, ha, ok, c', r'⟩ := outer (N := N) hS hN 12 0 N B (by omega) (by omega) hB he
  refine ⟨B', a, ha, ok, fun kd x y z hC c e l h hu => ?_, fun all hR c b hb => ?_⟩
  · obtain ⟨ca, ea, la, ha', heq, hCa⟩ := c' kd x y z hC c 0 l h ⟨by rw [he]; rfl, hu⟩
    exact ⟨ca, ea, la, ha', heq, hCa⟩
  · exact r' all hR 0 b hb
