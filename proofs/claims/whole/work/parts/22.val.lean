/-! ===== a place's number as a whole number of the least float: mVal; sums and products of places ===== -/
def mSig (m : Nat) : Nat := if m < 8388608 then m else 8388608 + m % 8388608
def mExp (m : Nat) : Nat := if m < 8388608 then 1 else m / 8388608
def mVal (m : Nat) : Nat := mSig m * 2 ^ (mExp m - 1)
def pMag (p : Int) : Nat := if p < 0 then (-1 - p).toNat else p.toNat
def pVal (p : Int) : Int := if p < 0 then -(mVal (pMag p) : Int) else (mVal (pMag p) : Int)
def pOf (neg : Prop) [Decidable neg] (m : Nat) : Int := if neg then -1 - (m : Int) else (m : Int)
def pSum (p q : Int) : Int := if pVal p + pVal q = 0 then (if p < 0 ∧ q < 0 then -1 else 0) else pOf (pVal p + pVal q < 0) (q_rnd (pVal p + pVal q).natAbs 1)
def pMul (p q : Int) : Int := pOf (¬ (p < 0 ↔ q < 0)) (q_rnd (mVal (pMag p) * mVal (pMag q)) (-148))
def isP (p : Int) : Prop := -2139095040 ≤ p ∧ p ≤ 2139095039
theorem mExp_pos (m : Nat) : 1 ≤ mExp m := by
  unfold mExp
  split
  · omega
  · omega
theorem mSig_lt (m : Nat) : mSig m < 16777216 := by
  unfold mSig
  split
  · omega
  · omega
theorem mSig_ge {m : Nat} (h : 8388608 ≤ m) : 8388608 ≤ mSig m := by
  unfold mSig
  split
  · omega
  · omega
theorem mVal_mono {a b : Nat} (h : a ≤ b) : mVal a ≤ mVal b := by
  unfold mVal mSig mExp
  by_cases hb : b < 8388608
  · rw [if_pos hb, if_pos hb, if_pos (by omega), if_pos (by omega)]
    exact Nat.mul_le_mul_right _ h
  · rw [if_neg hb, if_neg hb]
    by_cases ha : a < 8388608
    · rw [if_pos ha, if_pos ha]
      show a * 2 ^ 0 ≤ _
      have : 1 ≤ 2 ^ (b / 8388608 - 1) := Nat.two_pow_pos _
      calc a * 2 ^ 0 = a := by omega
        _ ≤ (8388608 + b % 8388608) * 1 := by omega
        _ ≤ _ := Nat.mul_le_mul_left _ this
    · rw [if_neg ha, if_neg ha]
      by_cases he : a / 8388608 = b / 8388608
      · rw [he]
        exact Nat.mul_le_mul_right _ (by omega)
      · have h1 : a / 8388608 - 1 + 1 ≤ b / 8388608 - 1 := by omega
        have h2 : 2 ^ (a / 8388608 - 1) * 2 ≤ 2 ^ (b / 8388608 - 1) := by
          rw [← Nat.pow_succ]
          exact Nat.pow_le_pow_right (by decide) h1
        calc (8388608 + a % 8388608) * 2 ^ (a / 8388608 - 1) ≤ (8388608 * 2) * 2 ^ (a / 8388608 - 1) := Nat.mul_le_mul_right _ (by omega)
          _ = 8388608 * (2 ^ (a / 8388608 - 1) * 2) := by rw [Nat.mul_assoc, Nat.mul_comm 2]
          _ ≤ 8388608 * 2 ^ (b / 8388608 - 1) := Nat.mul_le_mul_left _ h2
          _ ≤ _ := Nat.mul_le_mul_right _ (by omega)
theorem mVal_0 : mVal 0 = 0 := by
  show 0 * _ = 0
  exact Nat.zero_mul _
theorem mVal_pos {m : Nat} (h : 0 < m) : 0 < mVal m := by
  have h1 := mVal_mono (show 1 ≤ m from h)
  have h2 : mVal 1 = 1 := by decide
  omega
/-- a float's own number is its own nearest -/
theorem q_rnd_exact {m : Nat} (h : m < 2139095040) : q_rnd (mVal m) 1 = m := by
  by_cases h0 : m = 0
  · subst h0
    rw [mVal_0]
    rfl
  unfold mVal
  rw [q_rnd_scale]
  have he : (1 : Int) + ((mExp m - 1 : Nat) : Int) = (mExp m : Int) := by have := mExp_pos m; omega
  rw [he]
  by_cases hm : m < 8388608
  · have hs : mSig m = m := by unfold mSig; rw [if_pos hm]
    have hx : mExp m = 1 := by unfold mExp; rw [if_pos hm]
    rw [hs, hx]
    have hl : m.log2 ≤ 22 := by
      have := (Nat.log2_lt h0).mpr (show m < 2 ^ 23 by omega)
      omega
    have hF : q_fit m 1 = 1 := by unfold q_fit; omega
    unfold q_rnd q_num
    show (if m = 0 then 0 else if 254 < q_fit m 1 then _ else (q_fit m 1 - 1).toNat * 8388608 + FP.Core.nearest (m * 2 ^ (1 - q_fit m 1).toNat) (2 ^ (q_fit m 1 - 1).toNat)) = m
    rw [if_neg h0, hF, if_neg (by decide)]
    show 0 * 8388608 + FP.Core.nearest (m * 1) 1 = m
    rw [Nat.mul_one, q_near_one, Nat.zero_mul, Nat.zero_add]
  · have hs : mSig m = 8388608 + m % 8388608 := by unfold mSig; rw [if_neg hm]
    have hx : mExp m = m / 8388608 := by unfold mExp; rw [if_neg hm]
    rw [hs, hx]
    have hne : 8388608 + m % 8388608 ≠ 0 := by omega
    have hl : (8388608 + m % 8388608).log2 = 23 := q_log2 (by omega) (by omega)
    have hF : q_fit (8388608 + m % 8388608) ((m / 8388608 : Nat) : Int) = ((m / 8388608 : Nat) : Int) := by
      unfold q_fit
      rw [hl]
      omega
    unfold q_rnd q_num
    rw [if_neg hne, hF, if_neg (by omega)]
    have e1 : (((m / 8388608 : Nat) : Int) - ((m / 8388608 : Nat) : Int)).toNat = 0 := by omega
    rw [e1]
    show _ + FP.Core.nearest ((8388608 + m % 8388608) * 1) 1 = m
    rw [Nat.mul_one, q_near_one]
    omega
theorem pMag_lt {p : Int} (h : isP p) : pMag p < 2139095040 := by
  unfold isP at h
  unfold pMag
  split
  · omega
  · omega
theorem pVal_mono {p q : Int} (h : p ≤ q) : pVal p ≤ pVal q := by
  unfold pVal pMag
  by_cases hp : p < 0
  · rw [if_pos hp, if_pos hp]
    by_cases hq : q < 0
    · rw [if_pos hq, if_pos hq]
      have := mVal_mono (show (-1 - q).toNat ≤ (-1 - p).toNat by omega)
      omega
    · rw [if_neg hq, if_neg hq]
      omega
  · have hq : ¬ q < 0 := by omega
    rw [if_neg hp, if_neg hp, if_neg hq, if_neg hq]
    have := mVal_mono (show p.toNat ≤ q.toNat by omega)
    omega
theorem q_rnd_pos {c : Nat} (h : 0 < c) : 0 < q_rnd c 1 := by
  have h1 := q_rnd_mono 1 (show 1 ≤ c from h)
  have h2 : q_rnd 1 1 = 1 := q_rnd_exact (m := 1) (by decide)
  omega
/-- sums rise with places -/
theorem pSum_mono {p p' : Int} (q : Int) (h : p ≤ p') : pSum p q ≤ pSum p' q := by
  have hv := pVal_mono h
  unfold pSum pOf
  by_cases h0 : pVal p + pVal q = 0
  · rw [if_pos h0]
    by_cases h1 : pVal p' + pVal q = 0
    · rw [if_pos h1]
      split
      · split <;> omega
      · rename_i hn
        rw [if_neg (fun hh => hn ⟨by omega, hh.2⟩)]
        omega
    · rw [if_neg h1, if_neg (show ¬ (pVal p' + pVal q < 0) by omega)]
      split <;> omega
  · rw [if_neg h0]
    by_cases hneg : pVal p + pVal q < 0
    · rw [if_pos hneg]
      have hpos := q_rnd_pos (c := (pVal p + pVal q).natAbs) (by omega)
      by_cases h1 : pVal p' + pVal q = 0
      · rw [if_pos h1]
        split <;> omega
      · rw [if_neg h1]
        by_cases hneg' : pVal p' + pVal q < 0
        · rw [if_pos hneg']
          have := q_rnd_mono 1 (show (pVal p' + pVal q).natAbs ≤ (pVal p + pVal q).natAbs by omega)
          omega
        · rw [if_neg hneg']
          omega
    · rw [if_neg hneg, if_neg (by omega), if_neg (by omega)]
      have := q_rnd_mono 1 (show (pVal p + pVal q).natAbs ≤ (pVal p' + pVal q).natAbs by omega)
      omega
theorem pSum_comm (p q : Int) : pSum p q = pSum q p := by
  unfold pSum
  rw [Int.add_comm (pVal p) (pVal q)]
  have : (p < 0 ∧ q < 0) ↔ (q < 0 ∧ p < 0) := And.comm
  simp only [this]
theorem pMul_comm (p q : Int) : pMul p q = pMul q p := by
  unfold pMul
  rw [Nat.mul_comm]
  have : (¬ (p < 0 ↔ q < 0)) ↔ (¬ (q < 0 ↔ p < 0)) := not_congr Iff.comm
  unfold pOf
  simp only [this]
/-- products by a factor with sign bit 0 rise with places -/
theorem pMul_mono {p p' q : Int} (hq : ¬ q < 0) (h : p ≤ p') : pMul p q ≤ pMul p' q := by
  unfold pMul pOf
  by_cases hp : p < 0
  · rw [if_pos (by simp [hp, hq])]
    by_cases hp' : p' < 0
    · rw [if_pos (by simp [hp', hq])]
      have hm : pMag p' ≤ pMag p := by
        unfold pMag
        rw [if_pos hp, if_pos hp']
        omega
      have := q_rnd_mono (-148) (Nat.mul_le_mul_right (mVal (pMag q)) (mVal_mono hm))
      omega
    · rw [if_neg (by simp [hp', hq])]
      omega
  · have hp' : ¬ p' < 0 := by omega
    rw [if_neg (by simp [hp, hq]), if_neg (by simp [hp', hq])]
    have hm : pMag p ≤ pMag p' := by
      unfold pMag
      rw [if_neg hp, if_neg hp']
      omega
    have := q_rnd_mono (-148) (Nat.mul_le_mul_right (mVal (pMag q)) (mVal_mono hm))
    omega
theorem pMag_turn (p : Int) : pMag (-1 - p) = pMag p := by
  unfold pMag
  by_cases h : p < 0
  · rw [if_pos h, if_neg (by omega)]
  · rw [if_neg h, if_pos (by omega)]
    omega
/-- a factor with the other sign bit turns the product's sign bit -/
theorem pMul_turn (p q : Int) : pMul p (-1 - q) = -1 - pMul p q := by
  unfold pMul
  rw [pMag_turn]
  unfold pOf
  by_cases hp : p < 0
  · by_cases hq : q < 0
    · rw [if_pos (by simp only [hp, true_iff]; omega), if_neg (by simp [hp, hq])]
    · rw [if_neg (by simp only [hp, true_iff]; omega), if_pos (by simp [hp, hq])]
      omega
  · by_cases hq : q < 0
    · rw [if_neg (by simp only [hp, false_iff]; omega), if_pos (by simp [hp, hq])]
      omega
    · rw [if_pos (by simp only [hp, false_iff]; omega), if_neg (by simp [hp, hq])]
/-- products by a greater factor (both with sign bit 0): greater for places with sign bit 0, lesser for others -/
theorem pMul_up {p q r : Int} (hq : ¬ q < 0) (hqr : q ≤ r) (hp : ¬ p < 0) : pMul p q ≤ pMul p r := by
  rw [pMul_comm p q, pMul_comm p r]
  exact pMul_mono hp hqr
theorem pMul_down {p q r : Int} (hq : ¬ q < 0) (hqr : q ≤ r) (hp : p < 0) : pMul p r ≤ pMul p q := by
  have h1 : ¬ (-1 - p) < 0 := by omega
  have h2 := pMul_up hq hqr h1
  have e1 : pMul (-1 - p) q = -1 - pMul p q := by rw [pMul_comm, pMul_turn, pMul_comm]
  have e2 : pMul (-1 - p) r = -1 - pMul p r := by rw [pMul_comm, pMul_turn, pMul_comm]
  omega
theorem pOf_lt {neg : Prop} [Decidable neg] {m : Nat} (h : m ≤ 2139095040) : -2139095041 ≤ pOf neg m ∧ pOf neg m ≤ 2139095040 := by
  unfold pOf
  split <;> omega
theorem pSum_in (p q : Int) : -2139095041 ≤ pSum p q ∧ pSum p q ≤ 2139095040 := by
  unfold pSum
  split
  · split <;> omega
  · exact pOf_lt (q_rnd_le _ _)
theorem pMul_in (p q : Int) : -2139095041 ≤ pMul p q ∧ pMul p q ≤ 2139095040 := pOf_lt (q_rnd_le _ _)
