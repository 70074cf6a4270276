/-! ===== the class's search for factors ===== -/
def pG (mi pl p : Int) : Int := if p < 0 then pMul p mi else pMul p pl
theorem pMul_neg {p q : Int} (hp : p < 0) (hq : ¬ q < 0) : pMul p q < 0 := by
  unfold pMul pOf
  rw [if_pos (by simp [hp, hq])]
  omega
theorem pMul_nonneg {p q : Int} (hp : ¬ p < 0) (hq : ¬ q < 0) : 0 ≤ pMul p q := by
  unfold pMul pOf
  rw [if_neg (by simp [hp, hq])]
  omega
theorem pG_mono {mi pl p p' : Int} (hmi : ¬ mi < 0) (hpl : ¬ pl < 0) (h : p ≤ p') : pG mi pl p ≤ pG mi pl p' := by
  unfold pG
  by_cases h1 : p < 0
  · rw [if_pos h1]
    by_cases h2 : p' < 0
    · rw [if_pos h2]
      exact pMul_mono hmi h
    · rw [if_neg h2]
      have := pMul_neg h1 hmi
      have := pMul_nonneg h2 hpl
      omega
  · rw [if_neg h1, if_neg (by omega)]
    exact pMul_mono hpl h
theorem pG_in (mi pl p : Int) : -2139095041 ≤ pG mi pl p ∧ pG mi pl p ≤ 2139095040 := by
  unfold pG
  split
  · exact pMul_in _ _
  · exact pMul_in _ _
theorem z_0le {p : Int} (h1 : -2147483648 ≤ p) (h2 : p < 2147483648) : ((0 : Int32) ≤ Int32.ofInt p) ↔ ¬ p < 0 := by
  have := iI_le (a := 0) (b := p) (by decide) (by decide) h1 h2
  constructor
  · intro q
    have := this.mp q
    omega
  · intro q
    exact this.mpr (by omega)
theorem z_pG {mi pl p : Int} (hp : isP p) (hmi : isP mi) (hpl : isP pl) : (if (0 : Int32) ≤ Int32.ofInt p then f_X1_product (Int32.ofInt p) (Int32.ofInt pl) else f_X1_product (Int32.ofInt p) (Int32.ofInt mi)) = some (Int32.ofInt (pG mi pl p)) := by
  have hp' := hp
  unfold isP at hp'
  have hi := z_0le (p := p) (by omega) (by omega)
  unfold pG
  by_cases h : p < 0
  · rw [if_neg (fun q => hi.mp q h), if_pos h]
    exact z_product hp hmi
  · rw [if_pos (hi.mpr h), if_neg h]
    exact z_product hp hpl
theorem z_firstProductL {vl vh : Nat → Int32} {N : Nat} {mi pl goal : Int} (hmi : isP mi) (hpl : isP pl) (hg1 : -2147483000 ≤ goal) (hg2 : goal ≤ 2147483000) : ∀ (k n : Nat) (a b : Int) (st : Nat), isP a → isP b → a < b → ¬ goal ≤ pG mi pl a → goal ≤ pG mi pl b → b - a ≤ 2 ^ k → st + k ≤ 33 → k < n →
    ∃ r, f_X0_firstProduct_L67 N vl vh n (Int32.ofInt mi) (Int32.ofInt pl) (Int32.ofInt goal) (Int32.ofInt a) (Int32.ofInt b) (nI st) = some (Int32.ofInt r) ∧ a < r ∧ r ≤ b ∧ goal ≤ pG mi pl r ∧ ¬ goal ≤ pG mi pl (r - 1) := by
  intro k
  induction k with
  | zero =>
    intro n a b st ha hb hab hna hpb hw hst hn
    have hb1 : b = a + 1 := by
      have : (2 : Int) ^ 0 = 1 := rfl
      omega
    obtain ⟨n', rfl⟩ : ∃ n', n = n' + 1 := ⟨n - 1, by omega⟩
    have ha' := ha
    have hb' := hb
    unfold isP at ha' hb'
    refine ⟨b, ?_, hab, by omega, hpb, by rw [hb1]; simpa using hna⟩
    show f_X0_firstProduct_C67 N vl vh _ _ _ _ _ _ _ = _
    unfold f_X0_firstProduct_C67
    have h34 : ¬ (34 : Int32) ≤ nI st := fun q => by
      have := (nI_leI (a := 34) (by decide) (by omega)).mp q
      omega
    rw [if_neg h34, if_pos ((z_gap (by omega) (by omega) (by omega) (by omega)).mpr (by omega))]
  | succ k ih =>
    intro n a b st ha hb hab hna hpb hw hst hn
    obtain ⟨n', rfl⟩ : ∃ n', n = n' + 1 := ⟨n - 1, by omega⟩
    have ha' := ha
    have hb' := hb
    unfold isP at ha' hb'
    have hgap := z_gap (a := a) (b := b) (by omega) (by omega) (by omega) (by omega)
    have h34 : ¬ (34 : Int32) ≤ nI st := fun q => by
      have := (nI_leI (a := 34) (by decide) (by omega)).mp q
      omega
    show ∃ r, f_X0_firstProduct_C67 N vl vh _ _ _ _ _ _ _ = _ ∧ _
    unfold f_X0_firstProduct_C67
    rw [if_neg h34]
    by_cases h1 : b - a ≤ 1
    · rw [if_pos (hgap.mpr h1)]
      have hb1 : b = a + 1 := by omega
      exact ⟨b, rfl, hab, by omega, hpb, by rw [hb1]; simpa using hna⟩
    · rw [if_neg (fun q => h1 (hgap.mp q)), z_mid (by omega) (by omega) (by omega) (by omega)]
      have hm1 : a < (a + b) / 2 := by omega
      have hm2 : (a + b) / 2 < b := by omega
      have hmP : isP ((a + b) / 2) := isP_mid ha hb (by omega) (by omega)
      rw [p33] at hw
      have hpg := z_pG hmP hmi hpl
      simp only [o_b1, f_X0_firstProduct_B107, f_X0_firstProduct_B126]
      have hsb := pG_in mi pl ((a + b) / 2)
      have hiff : (Int32.ofInt (pG mi pl ((a + b) / 2)) < Int32.ofInt goal) ↔ pG mi pl ((a + b) / 2) < goal := iI_lt (by omega) (by omega) (by omega) (by omega)
      have hst1 : nI st + 1 = nI (st + 1) := nI_1 st
      rw [hst1]
      have key : ∃ r, (if Int32.ofInt (pG mi pl ((a + b) / 2)) < Int32.ofInt goal then f_X0_firstProduct_L67 N vl vh n' (Int32.ofInt mi) (Int32.ofInt pl) (Int32.ofInt goal) (Int32.ofInt ((a + b) / 2)) (Int32.ofInt b) (nI (st + 1)) else f_X0_firstProduct_L67 N vl vh n' (Int32.ofInt mi) (Int32.ofInt pl) (Int32.ofInt goal) (Int32.ofInt a) (Int32.ofInt ((a + b) / 2)) (nI (st + 1))) = some (Int32.ofInt r) ∧ a < r ∧ r ≤ b ∧ goal ≤ pG mi pl r ∧ ¬ goal ≤ pG mi pl (r - 1) := by
        by_cases hc : pG mi pl ((a + b) / 2) < goal
        · rw [if_pos (hiff.mpr hc)]
          obtain ⟨r, e, r1, r2, r3, r4⟩ := ih n' ((a + b) / 2) b (st + 1) hmP hb hm2 (by omega) hpb (by omega) (by omega) (by omega)
          exact ⟨r, e, by omega, r2, r3, r4⟩
        · rw [if_neg (fun q => hc (hiff.mp q))]
          obtain ⟨r, e, r1, r2, r3, r4⟩ := ih n' a ((a + b) / 2) (st + 1) ha hmP hm1 hna (by omega) (by omega) (by omega) (by omega)
          exact ⟨r, e, r1, by omega, r3, r4⟩
      by_cases h0 : (0 : Int32) ≤ Int32.ofInt ((a + b) / 2)
      · rw [if_pos h0] at hpg ⊢
        rw [hpg]
        exact key
      · rw [if_neg h0] at hpg ⊢
        rw [hpg]
        exact key
/-- 'firstProduct': the first place of the range whose product is the goal or more -/
theorem z_firstProduct {vl vh : Nat → Int32} {N : Nat} {u : Nat} {mi pl goal lo hi : Int} (hN : 40 ≤ N) (hu : u < 6) (hlo : vl u = Int32.ofInt lo) (hhi : vh u = Int32.ofInt hi) (hl : isP lo) (hh : isP hi) (hle : lo ≤ hi) (hmi : isP mi) (hpl : isP pl) (hmi0 : ¬ mi < 0) (hpl0 : ¬ pl < 0) (hg1 : -2147483000 ≤ goal) (hg2 : goal ≤ 2147483000) :
    ∃ r, f_X0_firstProduct N vl vh (nI u) (Int32.ofInt mi) (Int32.ofInt pl) (Int32.ofInt goal) = some (Int32.ofInt r) ∧ isFirst (fun p => goal ≤ pG mi pl p) lo hi r := by
  have hin : ¬ (nI u < 0 ∨ 6 ≤ (nI u).toNatClampNeg) := vp_in_nI hu (by decide)
  have hcl : (nI u).toNatClampNeg = u := nI_clamp (by omega)
  have hl' := hl
  have hh' := hh
  unfold isP at hl' hh'
  have g1 := z_pG hl hmi hpl
  have g2 := z_pG hh hmi hpl
  have hs1 := pG_in mi pl lo
  have hs2 := pG_in mi pl hi
  have i1 : (Int32.ofInt (pG mi pl lo) < Int32.ofInt goal) ↔ pG mi pl lo < goal := iI_lt (by omega) (by omega) (by omega) (by omega)
  have i2 : (Int32.ofInt goal ≤ Int32.ofInt (pG mi pl hi)) ↔ goal ≤ pG mi pl hi := iI_le (by omega) (by omega) (by omega) (by omega)
  have b51 : ∀ z : Int32, ¬ goal ≤ pG mi pl lo → f_X1_product (Int32.ofInt hi) z = some (Int32.ofInt (pG mi pl hi)) → ∃ r, f_X0_firstProduct_B51 N vl vh (Int32.ofInt mi) (Int32.ofInt pl) (Int32.ofInt goal) (Int32.ofInt lo) (Int32.ofInt hi) (Int32.ofInt hi) z = some (Int32.ofInt r) ∧ isFirst (fun p => goal ≤ pG mi pl p) lo hi r := fun z h1 hz => by
    unfold f_X0_firstProduct_B51
    rw [hz]
    simp only [o_b1]
    by_cases h2 : goal ≤ pG mi pl hi
    · rw [if_pos (i2.mpr h2)]
      have hlt : lo < hi := by
        rcases (show lo < hi ∨ hi ≤ lo by omega) with q | q
        · exact q
        · have : lo = hi := by omega
          rw [this] at h1
          omega
      obtain ⟨r, e, r1, r2, r3, r4⟩ := z_firstProductL (vl := vl) (vh := vh) (N := N) hmi hpl hg1 hg2 32 N lo hi 0 hl hh hlt (by omega) h2 (by
        have : (2 : Int) ^ 32 = 4294967296 := by decide
        omega) (by decide) (by omega)
      refine ⟨r, e, by omega, by omega, fun p p1 p2 q => ?_, fun p p1 p2 => ?_⟩
      · have := pG_mono hmi0 hpl0 (show p ≤ r - 1 by omega)
        omega
      · have := pG_mono hmi0 hpl0 p1
        omega
    · rw [if_neg (fun q => h2 (i2.mp q))]
      refine ⟨hi + 1, by rw [Int32.ofInt_add]; rfl, by omega, by omega, fun p p1 p2 q => ?_, fun p p1 p2 => by omega⟩
      have := pG_mono hmi0 hpl0 (show p ≤ hi by omega)
      omega
  have b28 : ∀ z : Int32, f_X1_product (Int32.ofInt lo) z = some (Int32.ofInt (pG mi pl lo)) → ∃ r, f_X0_firstProduct_B28 N vl vh (Int32.ofInt mi) (Int32.ofInt pl) (Int32.ofInt goal) (Int32.ofInt lo) (Int32.ofInt hi) (Int32.ofInt lo) z = some (Int32.ofInt r) ∧ isFirst (fun p => goal ≤ pG mi pl p) lo hi r := fun z hz => by
    unfold f_X0_firstProduct_B28
    rw [hz]
    simp only [o_b1]
    by_cases h1 : pG mi pl lo < goal
    · rw [if_pos (i1.mpr h1)]
      by_cases h0 : (0 : Int32) ≤ Int32.ofInt hi
      · rw [if_pos h0] at g2 ⊢
        exact b51 _ (by omega) g2
      · rw [if_neg h0] at g2 ⊢
        exact b51 _ (by omega) g2
    · rw [if_neg (fun q => h1 (i1.mp q))]
      refine ⟨lo, rfl, by omega, by omega, fun p p1 p2 => by omega, fun p p1 p2 => ?_⟩
      have := pG_mono hmi0 hpl0 p1
      omega
  unfold f_X0_firstProduct o_in
  rw [if_neg hin]
  simp only [o_nm]
  rw [if_neg hin, hcl, hlo, hhi]
  by_cases h0 : (0 : Int32) ≤ Int32.ofInt lo
  · rw [if_pos h0] at g1 ⊢
    exact b28 _ g1
  · rw [if_neg h0] at g1 ⊢
    exact b28 _ g1
