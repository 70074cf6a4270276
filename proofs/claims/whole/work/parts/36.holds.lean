/-! ===== a rule holds at a point; the widest ===== -/
def rk (p : Int) : Int := if p < 0 then p + 1 else p
theorem mVal_lt {a b : Nat} (h : a < b) (hb : b < 2139095040) : mVal a < mVal b := by
  have h1 := mVal_mono (show a ≤ b by omega)
  rcases (show mVal a = mVal b ∨ mVal a < mVal b by omega) with h2 | h2
  · have e1 := q_rnd_exact (m := a) (by omega)
    have e2 := q_rnd_exact hb
    rw [h2, e2] at e1
    omega
  · exact h2
theorem pVal_rk_lt {p q : Int} (hp : isP p) (hq : isP q) (h : rk p < rk q) : pVal p < pVal q := by
  unfold isP at hp hq
  unfold rk at h
  unfold pVal pMag
  by_cases h1 : p < 0
  · rw [if_pos h1] at h
    rw [if_pos h1, if_pos h1]
    by_cases h2 : q < 0
    · rw [if_pos h2] at h
      rw [if_pos h2, if_pos h2]
      have := mVal_lt (show (-1 - q).toNat < (-1 - p).toNat by omega) (by omega)
      omega
    · rw [if_neg h2] at h
      rw [if_neg h2, if_neg h2]
      rcases (show p = -1 ∨ p < -1 by omega) with h3 | h3
      · have := mVal_pos (show 0 < q.toNat by omega)
        omega
      · have := mVal_pos (show 0 < (-1 - p).toNat by omega)
        omega
  · rw [if_neg h1] at h
    rw [if_neg h1, if_neg h1]
    by_cases h2 : q < 0
    · rw [if_pos h2] at h
      omega
    · rw [if_neg h2] at h
      rw [if_neg h2, if_neg h2]
      have := mVal_lt (show p.toNat < q.toNat by omega) (by omega)
      omega
theorem pVal_rk_eq {p q : Int} (h : rk p = rk q) : pVal p = pVal q := by
  rcases (show p = q ∨ (p = -1 ∧ q = 0) ∨ (p = 0 ∧ q = -1) by
    unfold rk at h
    split at h <;> split at h <;> omega) with h1 | ⟨h1, h2⟩ | ⟨h1, h2⟩
  · rw [h1]
  · rw [h1, h2]
    decide
  · rw [h1, h2]
    decide
theorem pVal_lt {p q : Int} (hp : isP p) (hq : isP q) : pVal p < pVal q ↔ rk p < rk q := by
  constructor
  · intro h
    rcases (show rk p < rk q ∨ rk p = rk q ∨ rk q < rk p by omega) with h1 | h1 | h1
    · exact h1
    · have := pVal_rk_eq h1
      omega
    · have := pVal_rk_lt hq hp h1
      omega
  · exact pVal_rk_lt hp hq
theorem pVal_eq {p q : Int} (hp : isP p) (hq : isP q) : pVal p = pVal q ↔ rk p = rk q := by
  have h1 := pVal_lt hp hq
  have h2 := pVal_lt hq hp
  constructor
  · intro h
    omega
  · exact pVal_rk_eq
theorem y_fcmp {p q : Int} (hp : isP p) (hq : isP q) : ∃ A B : Int, FP.fcmp (uB (decide (p < 0)) (pMag p)) (uB (decide (q < 0)) (pMag q)) = some (compareOfLessAndEq A B) ∧ (A < B ↔ rk p < rk q) ∧ (A = B ↔ rk p = rk q) := by
  have hmp := pMag_lt hp
  have hmq := pMag_lt hq
  have hxp := mExp_pos (pMag p)
  have hxq := mExp_pos (pMag q)
  generalize he : min ((mExp (pMag p) : Int) - 150) ((mExp (pMag q) : Int) - 150) = e
  have hV1 : FP.Core.signed (decide (p < 0)) (FP.Core.inUnits (mSig (pMag p)) ((mExp (pMag p) : Int) - 150) e) * ((2 ^ (e + 149).toNat : Nat) : Int) = pVal p := by
    unfold FP.Core.inUnits
    rw [← sgn_mul, Nat.mul_assoc, ← Nat.pow_add, show ((mExp (pMag p) : Int) - 150 - e).toNat + (e + 149).toNat = mExp (pMag p) - 1 by omega]
    show FP.Core.signed _ (mVal (pMag p)) = _
    rw [sgn_val]
  have hV2 : FP.Core.signed (decide (q < 0)) (FP.Core.inUnits (mSig (pMag q)) ((mExp (pMag q) : Int) - 150) e) * ((2 ^ (e + 149).toNat : Nat) : Int) = pVal q := by
    unfold FP.Core.inUnits
    rw [← sgn_mul, Nat.mul_assoc, ← Nat.pow_add, show ((mExp (pMag q) : Int) - 150 - e).toNat + (e + 149).toNat = mExp (pMag q) - 1 by omega]
    show FP.Core.signed _ (mVal (pMag q)) = _
    rw [sgn_val]
  have hpw : (0 : Int) < ((2 ^ (e + 149).toNat : Nat) : Int) := by
    have := Nat.two_pow_pos (e + 149).toNat
    omega
  refine ⟨FP.Core.signed (decide (p < 0)) (FP.Core.inUnits (mSig (pMag p)) ((mExp (pMag p) : Int) - 150) e), FP.Core.signed (decide (q < 0)) (FP.Core.inUnits (mSig (pMag q)) ((mExp (pMag q) : Int) - 150) e), ?_, ?_, ?_⟩
  · show FP.Core.order (FP.Core.decode FP.Core.b32 (uB (decide (p < 0)) (pMag p)).toNat) (FP.Core.decode FP.Core.b32 (uB (decide (q < 0)) (pMag q)).toNat) = _
    rw [uB_nat (by omega), uB_nat (by omega), dec32 hmp, dec32 hmq, ← he]
    rfl
  · rw [← pVal_lt hp hq, ← hV1, ← hV2]
    exact ⟨fun h => Int.mul_lt_mul_of_pos_right h hpw, fun h => Int.lt_of_mul_lt_mul_right h (Int.le_of_lt hpw)⟩
  · rw [← pVal_eq hp hq, ← hV1, ← hV2]
    exact ⟨fun h => by rw [h], fun h => Int.eq_of_mul_eq_mul_right (Int.ne_of_gt hpw) h⟩
theorem cv_ge {A B : Int} : (0 : Int32) ≤ Op.cmpValue (some (compareOfLessAndEq A B)) .g ↔ ¬ A < B := by
  unfold compareOfLessAndEq
  by_cases h : A < B
  · rw [if_pos h]
    exact ⟨fun q => absurd q (by decide), fun q => absurd h q⟩
  · rw [if_neg h]
    by_cases h2 : A = B
    · rw [if_pos h2]
      exact ⟨fun _ => h, fun _ => by decide⟩
    · rw [if_neg h2]
      exact ⟨fun _ => h, fun _ => by decide⟩
theorem cv_eq {A B : Int} : Op.cmpValue (some (compareOfLessAndEq A B)) .l = 0 ↔ A = B := by
  unfold compareOfLessAndEq
  by_cases h : A < B
  · rw [if_pos h]
    exact ⟨fun q => absurd q (by decide), fun q => by omega⟩
  · rw [if_neg h]
    by_cases h2 : A = B
    · rw [if_pos h2]
      exact ⟨fun _ => h2, fun _ => by decide⟩
    · rw [if_neg h2]
      exact ⟨fun q => absurd q (by decide), fun q => absurd q h2⟩
theorem bI_if (c : Prop) [Decidable c] : (if c then some (1 : Int32) else some 0) = some (bI (decide c)) := by
  by_cases h : c
  · rw [if_pos h, decide_eq_true h]
    rfl
  · rw [if_neg h, decide_eq_false h]
    rfl
theorem bI_ifn (c : Prop) [Decidable c] : (if c then some (0 : Int32) else some 1) = some (bI (decide (¬ c))) := by
  by_cases h : c
  · rw [if_pos h, decide_eq_false (fun q => q h)]
    rfl
  · rw [if_neg h, decide_eq_true h]
    rfl
theorem z_rk {a : Int} (h : isP a) : f_X4_rank (Int32.ofInt a) = some (Int32.ofInt (rk a)) := by
  unfold isP at h
  exact z_rank (by omega) (by omega)
theorem rk_in {a : Int} (h : isP a) : -2139095040 ≤ rk a ∧ rk a ≤ 2139095039 := by
  unfold isP at h
  unfold rk
  split <;> omega
theorem h3R {r s : UInt32} {A B : Int} (hc : FP.fcmp r s = some (compareOfLessAndEq A B)) : (if 0 ≤ (Op.cmpValue (FP.fcmp r s) .g) then some (0 : Int32) else some 1) = some (bI (decide (A < B))) := by
  rw [hc]
  by_cases h : A < B
  · rw [if_neg (fun q => cv_ge.mp q h), decide_eq_true h]
    rfl
  · rw [if_pos (cv_ge.mpr h), decide_eq_false h]
    rfl
theorem h4R {r s : UInt32} {A B : Int} (hc : FP.fcmp r s = some (compareOfLessAndEq A B)) : (if (Op.cmpValue (FP.fcmp r s) .l) = 0 then some (1 : Int32) else some 0) = some (bI (decide (A = B))) := by
  rw [hc]
  by_cases h : A = B
  · rw [if_pos (cv_eq.mpr h), decide_eq_true h]
    rfl
  · rw [if_neg (fun q => h (cv_eq.mp q)), decide_eq_false h]
    rfl
theorem holds_both {p q : Int} (hp : isP p) (hq : isP q) (kd z : Int32) : ∃ b : Bool, f_X8_holds kd (Int32.ofInt p) (Int32.ofInt q) z = some (bI b) ∧ f_X4_ruleHolds kd (Int32.ofInt p) (Int32.ofInt q) z = some (bI b) := by
  unfold f_X8_holds f_X4_ruleHolds f_X8_holds_B76
  have rp := rk_in hp
  have rq := rk_in hq
  by_cases k0 : kd = 0
  · rw [if_pos k0, if_pos k0, y_sum hp hq, o_b1_some, z_sum hp hq, o_b1_some, bI_if]
    exact ⟨_, rfl, rfl⟩
  rw [if_neg k0, if_neg k0]
  by_cases k1 : kd = 1
  · rw [if_pos k1, if_pos k1, y_product hp hq, o_b1_some, z_product hp hq, o_b1_some, bI_if]
    exact ⟨_, rfl, rfl⟩
  rw [if_neg k1, if_neg k1]
  by_cases k2 : kd = 2
  · rw [if_pos k2, if_pos k2, bI_if, bI_if, bI_if]
    unfold isP at hp hq
    rw [z_max (by omega) (by omega) (by omega) (by omega)]
    refine ⟨_, ?_, rfl⟩
    have hi := iI_le (a := p) (b := q) (by omega) (by omega) (by omega) (by omega)
    by_cases h : p ≤ q
    · rw [if_pos (hi.mpr h), show max p q = q by omega]
    · rw [if_neg (fun x => h (hi.mp x)), show max p q = p by omega]
  rw [if_neg k2, if_neg k2]
  by_cases k3 : kd = 3
  · obtain ⟨A, B, hc, h1, h2⟩ := y_fcmp hp hq
    rw [if_pos k3, if_pos k3, y_number hp, o_b1_some, y_number hq, o_b1_some, h3R hc, z_rk hp, o_b1_some, z_rk hq, o_b1_some, bI_ifn]
    refine ⟨_, rfl, congrArg some (congrArg bI (decide_eq_decide.mpr ?_))⟩
    rw [h1, iI_le (by omega) (by omega) (by omega) (by omega)]
    omega
  rw [if_neg k3, if_neg k3]
  by_cases k4 : kd = 4
  · obtain ⟨A, B, hc, h1, h2⟩ := y_fcmp hp hq
    rw [if_pos k4, if_pos k4, y_number hp, o_b1_some, y_number hq, o_b1_some, h4R hc, z_rk hp, o_b1_some, z_rk hq, o_b1_some, bI_if]
    refine ⟨_, rfl, congrArg some (congrArg bI (decide_eq_decide.mpr ?_))⟩
    rw [h2, iI_eq (by omega) (by omega) (by omega) (by omega)]
  rw [if_neg k4, if_neg k4, bI_if]
  exact ⟨_, rfl, rfl⟩
/-! all rules -/
theorem all_sticky {S : mS} {N : Nat} {all box : Nat → Int32} (hS : mOK S) (hR : mR S all) : ∀ (j k F : Nat), k + j = sm S → j < F → f_X8_allHold_L4 N all box F 0 (nI k) = some 0 := by
  have h6 := hS.2.1
  intro j
  induction j with
  | zero =>
    intro k F hk hF
    obtain ⟨F', rfl⟩ : ∃ F', F = F' + 1 := ⟨F - 1, by omega⟩
    rw [show f_X8_allHold_L4 N all box (F' + 1) = f_X8_allHold_C4 N all box (f_X8_allHold_L4 N all box F') from rfl]
    unfold f_X8_allHold_C4
    rw [y_rules hR, o_b1_some, if_pos ((nI_leI (by omega) (by omega)).mpr (by omega))]
    rfl
  | succ j ih =>
    intro k F hk hF
    obtain ⟨F', rfl⟩ : ∃ F', F = F' + 1 := ⟨F - 1, by omega⟩
    rw [show f_X8_allHold_L4 N all box (F' + 1) = f_X8_allHold_C4 N all box (f_X8_allHold_L4 N all box F') from rfl]
    unfold f_X8_allHold_C4 f_X8_allHold_B62 f_X8_allHold_B63
    have hlt : ¬ nI (sm S) ≤ nI k := fun q => by
      have := (nI_leI (by omega) (by omega)).mp q
      omega
    rw [y_rules hR, o_b1_some, if_neg hlt, if_pos rfl, nI_1]
    exact ih (k + 1) F' (by omega) (by omega)
def lC (n : Nat) (L : Nat → Int) (l : Nat → Int32) : Prop := ∀ u, u < n → l u = Int32.ofInt (L u)
def lR (n : Nat) (L : Nat → Int) (box : Nat → Int32) : Prop := ∀ u, u < n → box (2 * u) = Int32.ofInt (L u)
theorem y_lowL {n u : Nat} {L : Nat → Int} {box : Nat → Int32} (hn : n ≤ 6) (hu : u < n) (hR : lR n L box) : f_X8_low box (nI u) = some (Int32.ofInt (L u)) := by
  unfold f_X8_low o_in
  rw [y_2u, if_neg (vp_in_nI (N := 12) (by omega) (by decide)), nI_clamp (by omega), hR u hu]
theorem allHold_loop {S : mS} {N : Nat} {L : Nat → Int} (hS : mOK S) (hL : ∀ u, u < sn S → isP (L u)) : ∀ (j k F : Nat), k + j = sm S → j < F → ∃ b : Bool,
    (∀ kd x y z l, rC S kd x y z → lC (sn S) L l → f_X3_allRulesHold_L2 N 6 (nI (sm S)) kd x l y z F (nI k) = some (bI b)) ∧
    (∀ all box, mR S all → lR (sn S) L box → f_X8_allHold_L4 N all box F 1 (nI k) = some (bI b)) := by
  have h6 := hS.2.1
  have hn := hS.1
  intro j
  induction j with
  | zero =>
    intro k F hk hF
    obtain ⟨F', rfl⟩ : ∃ F', F = F' + 1 := ⟨F - 1, by omega⟩
    refine ⟨true, fun kd x y z l hC hl => ?_, fun all box hR hb => ?_⟩
    · rw [show f_X3_allRulesHold_L2 N 6 (nI (sm S)) kd x l y z (F' + 1) = f_X3_allRulesHold_C2 N 6 (nI (sm S)) kd x l y z (f_X3_allRulesHold_L2 N 6 (nI (sm S)) kd x l y z F') from rfl]
      unfold f_X3_allRulesHold_C2
      rw [if_pos ((nI_leI (by omega) (by omega)).mpr (by omega))]
      rfl
    · rw [show f_X8_allHold_L4 N all box (F' + 1) = f_X8_allHold_C4 N all box (f_X8_allHold_L4 N all box F') from rfl]
      unfold f_X8_allHold_C4
      rw [y_rules hR, o_b1_some, if_pos ((nI_leI (by omega) (by omega)).mpr (by omega))]
      rfl
  | succ j ih =>
    intro k F hk hF
    obtain ⟨F', rfl⟩ : ∃ F', F = F' + 1 := ⟨F - 1, by omega⟩
    have hkm : k < sm S := by omega
    have hlt : ¬ nI (sm S) ≤ nI k := fun q => by
      have := (nI_leI (by omega) (by omega)).mp q
      omega
    obtain ⟨v1, v2, v3, v4⟩ := hS.2.2.2 k hkm
    obtain ⟨b0, hb1, hb2⟩ := holds_both (hL _ v2) (hL _ v3) (nI (sk S k)) (Int32.ofInt (L (sz S k)))
    obtain ⟨b', hc', hr'⟩ := ih (k + 1) F' (by omega) (by omega)
    have cl : ∀ kd x y z l, rC S kd x y z → lC (sn S) L l → f_X3_allRulesHold_L2 N 6 (nI (sm S)) kd x l y z (F' + 1) (nI k) = if bI b0 = 0 then some 0 else f_X3_allRulesHold_L2 N 6 (nI (sm S)) kd x l y z F' (nI (k + 1)) := fun kd x y z l hC hl => by
      obtain ⟨w1, w2, w3, w4⟩ := hC k hkm
      rw [show f_X3_allRulesHold_L2 N 6 (nI (sm S)) kd x l y z (F' + 1) = f_X3_allRulesHold_C2 N 6 (nI (sm S)) kd x l y z (f_X3_allRulesHold_L2 N 6 (nI (sm S)) kd x l y z F') from rfl]
      unfold f_X3_allRulesHold_C2
      rw [if_neg hlt, nI_clamp (by omega), w1, w2, w3, w4, o_inN (by omega) (by decide), o_inN (by omega) (by decide), o_inN (by omega) (by decide), o_inN (by omega) (by decide), o_inN (by omega) (by decide), o_inN (by omega) (by decide), o_inN (by omega) (by decide), nI_clamp (by omega), nI_clamp (by omega), nI_clamp (by omega), hl _ v2, hl _ v3, hl _ v4, hb2, o_b1_some, nI_1]
    have rf : ∀ all box, mR S all → lR (sn S) L box → f_X8_allHold_L4 N all box (F' + 1) 1 (nI k) = if bI b0 = 0 then f_X8_allHold_L4 N all box F' 0 (nI (k + 1)) else f_X8_allHold_L4 N all box F' 1 (nI (k + 1)) := fun all box hR hb => by
      rw [show f_X8_allHold_L4 N all box (F' + 1) = f_X8_allHold_C4 N all box (f_X8_allHold_L4 N all box F') from rfl]
      unfold f_X8_allHold_C4 f_X8_allHold_B62 f_X8_allHold_B63
      rw [y_rules hR, o_b1_some, if_neg hlt, if_neg (by decide), y_rule0 hS hR hkm, o_b1_some, y_rule1 hS hR hkm, o_b1_some, y_lowL hn v2 hb, o_b1_some, y_rule2 hS hR hkm, o_b1_some, y_lowL hn v3 hb, o_b1_some, y_rule3 hS hR hkm, o_b1_some, y_lowL hn v4 hb, o_b1_some, hb1, o_b1_some, nI_1]
    cases b0
    · refine ⟨false, fun kd x y z l hC hl => ?_, fun all box hR hb => ?_⟩
      · rw [cl kd x y z l hC hl, if_pos (by decide)]
        rfl
      · rw [rf all box hR hb, if_pos (by decide), all_sticky hS hR j (k + 1) F' (by omega) (by omega)]
        rfl
    · refine ⟨b', fun kd x y z l hC hl => ?_, fun all box hR hb => ?_⟩
      · rw [cl kd x y z l hC hl, if_neg (by decide)]
        exact hc' kd x y z l hC hl
      · rw [rf all box hR hb, if_neg (by decide)]
        exact hr' all box hR hb
theorem allHold_both {S : mS} {N : Nat} {L : Nat → Int} (hS : mOK S) (hN : 40 ≤ N) (hL : ∀ u, u < sn S → isP (L u)) : ∃ b : Bool,
    (∀ kd x y z l, rC S kd x y z → lC (sn S) L l → f_X3_allRulesHold N 6 (nI (sm S)) kd x l y z = some (bI b)) ∧
    (∀ all box, mR S all → lR (sn S) L box → f_X8_allHold N all box = some (bI b)) := by
  have h6 := hS.2.1
  exact allHold_loop hS hL (sm S) 0 N (by omega) (by omega)
/-! the widest -/
def wV (n : Nat) (B : aB) (w : Int32) : Prop := w = -1 ∨ ∃ i, i < n ∧ w = nI i ∧ B.1 i < B.2.1 i
theorem widest_loop {S : mS} {N : Nat} {B : aB} (hS : mOK S) (hB : aOK (sn S) B) : ∀ (j u F : Nat) (w : Int32) (M : Int), u + j = sn S → j < F → 0 ≤ M → M < 8589934592 → wV (sn S) B w → ∃ W, wV (sn S) B W ∧
    (∀ l h e, aCw (sn S) B e l h → f_X5_widestOf_L7 N l h F (nI (sn S)) w (Int64.ofInt (M + 1)) (nI u) = some W) ∧
    (∀ all box e, mR S all → aRw (sn S) B e box → f_X8_widest_L7 N all box F w (Int64.ofInt M) (nI u) = some W) := by
  have hn := hS.1
  intro j
  induction j with
  | zero =>
    intro u F w M hu hF hM0 hM1 hw
    obtain ⟨F', rfl⟩ : ∃ F', F = F' + 1 := ⟨F - 1, by omega⟩
    refine ⟨w, hw, fun l h e hC => ?_, fun all box e hR hb => ?_⟩
    · rw [show f_X5_widestOf_L7 N l h (F' + 1) = f_X5_widestOf_C7 N l h (f_X5_widestOf_L7 N l h F') from rfl]
      unfold f_X5_widestOf_C7
      rw [if_pos ((nI_leI (by omega) (by omega)).mpr (by omega))]
    · rw [show f_X8_widest_L7 N all box (F' + 1) = f_X8_widest_C7 N all box (f_X8_widest_L7 N all box F') from rfl]
      unfold f_X8_widest_C7
      rw [y_unknowns hR, o_b1_some, if_pos ((nI_leI (by omega) (by omega)).mpr (by omega))]
  | succ j ih =>
    intro u F w M hu hF hM0 hM1 hw
    obtain ⟨F', rfl⟩ : ∃ F', F = F' + 1 := ⟨F - 1, by omega⟩
    have hun : u < sn S := by omega
    have bu := aOK_in hB hun
    have hlt : ¬ nI (sn S) ≤ nI u := fun q => by
      have := (nI_leI (by omega) (by omega)).mp q
      omega
    have i1 := lc_leI (a := B.2.1 u - B.1 u + 1) (b := M + 1) (by omega) (by omega) (by omega) (by omega)
    have i2 := lc_leI (a := B.2.1 u - B.1 u) (b := M) (by omega) (by omega) (by omega) (by omega)
    have cl : ∀ l h e, aCw (sn S) B e l h → f_X5_widestOf_L7 N l h (F' + 1) (nI (sn S)) w (Int64.ofInt (M + 1)) (nI u) = if B.2.1 u - B.1 u ≤ M then f_X5_widestOf_L7 N l h F' (nI (sn S)) w (Int64.ofInt (M + 1)) (nI (u + 1)) else f_X5_widestOf_L7 N l h F' (nI (sn S)) (nI u) (Int64.ofInt (B.2.1 u - B.1 u + 1)) (nI (u + 1)) := fun l h e hC => by
      rw [show f_X5_widestOf_L7 N l h (F' + 1) = f_X5_widestOf_C7 N l h (f_X5_widestOf_L7 N l h F') from rfl]
      unfold f_X5_widestOf_C7 f_X5_widestOf_B51 f_X4_held
      rw [if_neg hlt, o_inN (by omega) (by decide), o_inN (by omega) (by decide), nI_clamp (by omega), (hC.2 u hun).1, (hC.2 u hun).2, iI_64 (by omega) (by omega), iI_64 (by omega) (by omega), ← Int64.ofInt_sub, jI_p1, o_b1_some, nI_1]
      by_cases g : B.2.1 u - B.1 u ≤ M
      · rw [if_pos (i1.mpr (by omega)), if_pos g]
      · rw [if_neg (fun x => g (by have := i1.mp x; omega)), if_neg g]
    have rf : ∀ all box e, mR S all → aRw (sn S) B e box → f_X8_widest_L7 N all box (F' + 1) w (Int64.ofInt M) (nI u) = if B.2.1 u - B.1 u ≤ M then f_X8_widest_L7 N all box F' w (Int64.ofInt M) (nI (u + 1)) else f_X8_widest_L7 N all box F' (nI u) (Int64.ofInt (B.2.1 u - B.1 u)) (nI (u + 1)) := fun all box e hR hb => by
      have hR' : aR (sn S) B e (bI B.2.2.1) box := ⟨rfl, hb.1, hb.2⟩
      rw [show f_X8_widest_L7 N all box (F' + 1) = f_X8_widest_C7 N all box (f_X8_widest_L7 N all box F') from rfl]
      unfold f_X8_widest_C7 f_X8_widest_B46 f_X8_widest_B60
      rw [y_unknowns hR, o_b1_some, if_neg hlt, y_high hn hun hR', o_b1_some, y_low hn hun hR', o_b1_some]
      simp only [o_nm]
      rw [iI_64 (by omega) (by omega), iI_64 (by omega) (by omega), ← Int64.ofInt_sub, nI_1]
      by_cases g : B.2.1 u - B.1 u ≤ M
      · rw [if_pos (i2.mpr g), if_pos (i2.mpr g), if_pos g]
      · rw [if_neg (fun x => g (i2.mp x)), if_neg (fun x => g (i2.mp x)), if_neg g]
    by_cases g : B.2.1 u - B.1 u ≤ M
    · obtain ⟨W, hW, hc, hr⟩ := ih (u + 1) F' w M (by omega) (by omega) hM0 hM1 hw
      refine ⟨W, hW, fun l h e hC => ?_, fun all box e hR hb => ?_⟩
      · rw [cl l h e hC, if_pos g]
        exact hc l h e hC
      · rw [rf all box e hR hb, if_pos g]
        exact hr all box e hR hb
    · obtain ⟨W, hW, hc, hr⟩ := ih (u + 1) F' (nI u) (B.2.1 u - B.1 u) (by omega) (by omega) (by omega) (by omega) (Or.inr ⟨u, hun, rfl, by omega⟩)
      refine ⟨W, hW, fun l h e hC => ?_, fun all box e hR hb => ?_⟩
      · rw [cl l h e hC, if_neg g]
        exact hc l h e hC
      · rw [rf all box e hR hb, if_neg g]
        exact hr all box e hR hb
theorem widest_both {S : mS} {N : Nat} {B : aB} (hS : mOK S) (hN : 40 ≤ N) (hB : aOK (sn S) B) : ∃ W, wV (sn S) B W ∧
    (∀ l h e, aCw (sn S) B e l h → f_X5_widestOf N l h (nI (sn S)) = some W) ∧
    (∀ all box e, mR S all → aRw (sn S) B e box → f_X8_widest N all box = some W) := by
  have hn := hS.1
  exact widest_loop hS hB (sn S) 0 N (-1) 0 (by omega) (by omega) (by omega) (by omega) (Or.inl rfl)
