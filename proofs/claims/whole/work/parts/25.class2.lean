/-! ===== the class's sums and products ===== -/
theorem z_mag {p : Int} (h1 : -2147483648 ≤ p) (h2 : p < 2147483648) : f_X4_magnitude (Int32.ofInt p) = some (nI (pMag p)) := by
  unfold f_X4_magnitude pMag
  have hiff : ((0 : Int32) ≤ Int32.ofInt p) ↔ 0 ≤ p := iI_le (a := 0) (by decide) (by decide) h1 h2
  by_cases hp : p < 0
  · rw [if_neg (fun q => by have := hiff.mp q; omega), if_pos hp, iI_nI]
    refine congrArg some ?_
    show Int32.ofInt (-1) - _ = _
    rw [← Int32.ofInt_sub]
    congr 1
    omega
  · rw [if_pos (hiff.mpr (by omega)), if_neg hp, iI_nI]
    congr 2
    omega
theorem z_exp {m : Nat} (h : m < 2147483648) : f_X1_exponent (nI m) = some (nI (mExp m)) := by
  unfold f_X1_exponent
  rw [pk_shrN h _ 23 (by decide)]
  unfold o_max mExp
  have hiff : (nI (m / 2 ^ 23) < 1) ↔ m / 2 ^ 23 < 1 := nI_ltI (b := 1) (by omega) (by decide)
  by_cases h8 : m < 8388608
  · rw [if_pos (hiff.mpr (by omega)), if_pos h8]
    rfl
  · rw [if_neg (fun q => by have := hiff.mp q; omega), if_neg h8]
theorem z_sig {m : Nat} (h : m < 2147483648) : f_X1_significand (nI m) = some (nI (mSig m)) := by
  unfold f_X1_significand mSig
  have hiff : ((8388608 : Int32) ≤ nI m) ↔ 8388608 ≤ m := nI_leI (a := 8388608) (by decide) (by omega)
  by_cases h8 : m < 8388608
  · rw [if_neg (fun q => by have := hiff.mp q; omega), if_pos h8]
  · rw [if_pos (hiff.mpr (by omega)), if_neg h8, pk_andN (by omega) 23 (by decide)]
    show some (nI 8388608 + nI (m % 2 ^ 23)) = _
    rw [nI_add]
theorem mVal_strict {a b : Nat} (hb : b < 2139095040) (h : a < b) : mVal a < mVal b := by
  have h1 := mVal_mono (Nat.le_of_lt h)
  rcases Nat.lt_or_ge (mVal a) (mVal b) with h2 | h2
  · exact h2
  · have e : mVal a = mVal b := by omega
    have ea := q_rnd_exact (m := a) (by omega)
    have eb := q_rnd_exact (m := b) hb
    rw [e, eb] at ea
    omega
theorem mExp_mono {a b : Nat} (h : a ≤ b) : mExp a ≤ mExp b := by
  unfold mExp
  split
  · split <;> omega
  · split <;> omega
theorem q_near_lo {s d B : Nat} (h : 2 * d < B) : FP.Core.nearest (s * B + d) B = s := by
  unfold FP.Core.nearest
  have hB : 0 < B := by omega
  have e1 : (s * B + d) / B = s := by
    rw [Nat.mul_comm, Nat.mul_add_div hB, Nat.div_eq_of_lt (by omega)]
    rfl
  have e2 : (s * B + d) % B = d := by
    rw [Nat.mul_comm, Nat.mul_add_mod, Nat.mod_eq_of_lt (by omega)]
  rw [e1, e2, if_pos h]
theorem q_near_hi {s d B : Nat} (hs : 0 < s) (h : 2 * d < B) : FP.Core.nearest (s * B - d) B = s := by
  by_cases h0 : d = 0
  · subst h0
    exact q_near_lo (d := 0) (by omega)
  have hB : 0 < B := by omega
  obtain ⟨s', rfl⟩ : ∃ s', s = s' + 1 := ⟨s - 1, by omega⟩
  have e0 : (s' + 1) * B - d = B * s' + (B - d) := by
    rw [Nat.add_mul, Nat.one_mul, Nat.mul_comm]
    omega
  unfold FP.Core.nearest
  have e1 : (B * s' + (B - d)) / B = s' := by
    rw [Nat.mul_add_div hB, Nat.div_eq_of_lt (by omega)]
    rfl
  have e2 : (B * s' + (B - d)) % B = B - d := by
    rw [Nat.mul_add_mod, Nat.mod_eq_of_lt (by omega)]
  rw [e0, e1, e2, if_neg (by omega), if_pos (by omega)]
theorem q_rnd_of {c : Nat} {x F : Int} {n : Nat} (hc : c ≠ 0) (hF : q_fit c x = F) (h2 : F ≤ 254) (hx : x ≤ F) (hn : FP.Core.nearest c (2 ^ (F - x).toNat) = n) : q_rnd c x = (F - 1).toNat * 8388608 + n := by
  unfold q_rnd q_num
  rw [if_neg hc, hF, if_neg (by omega)]
  have e : (x - F).toNat = 0 := by omega
  rw [e, Nat.pow_zero, Nat.mul_one, hn]
theorem mParts {m : Nat} (h : 8388608 ≤ m) : m = (mExp m - 1) * 8388608 + mSig m := by
  unfold mExp mSig
  rw [if_neg (by omega), if_neg (by omega)]
  omega
theorem mExp_big {m : Nat} (h : 2 ≤ mExp m) : 8388608 ≤ m := by
  unfold mExp at h
  split at h
  · omega
  · omega
/-- a summand that is far less leaves the other one as it is -/
theorem q_far {a b : Nat} (ha : a < 2139095040) (h : mExp b + 27 ≤ mExp a) : q_rnd (mVal a + mVal b) 1 = a ∧ q_rnd (mVal a - mVal b) 1 = a := by
  have hb1 := mExp_pos b
  have ha8 := mExp_big (m := a) (by omega)
  have hsa := mSig_ge ha8
  have hsl := mSig_lt a
  have hsb := mSig_lt b
  have hpa := mParts ha8
  have hea : mExp a ≤ 254 := by
    unfold mExp
    split <;> omega
  obtain ⟨k, hk⟩ : ∃ k, mExp a = mExp b + k := ⟨mExp a - mExp b, by omega⟩
  have hk27 : 27 ≤ k := by omega
  have e1 : mVal a = mSig a * 2 ^ k * 2 ^ (mExp b - 1) := by
    unfold mVal
    rw [Nat.mul_assoc, ← Nat.pow_add]
    congr 2
    omega
  have e2 : mVal b = mSig b * 2 ^ (mExp b - 1) := rfl
  have hX1 : 8388608 * 2 ^ k ≤ mSig a * 2 ^ k := Nat.mul_le_mul_right _ hsa
  have hX2 : mSig a * 2 ^ k + 2 ^ k ≤ 16777216 * 2 ^ k := by
    have := Nat.mul_le_mul_right (2 ^ k) (show mSig a + 1 ≤ 16777216 by omega)
    rwa [Nat.add_mul, Nat.one_mul] at this
  have hPk : 2 ^ 27 ≤ 2 ^ k := Nat.pow_le_pow_right (by decide) hk27
  have p23 : 2 ^ (23 + k) = 8388608 * 2 ^ k := by rw [Nat.pow_add]
  have p24 : 2 ^ (23 + k + 1) = 16777216 * 2 ^ k := by
    rw [show 23 + k + 1 = 24 + k by omega, Nat.pow_add]
  have hx1 : (1 : Int) + ((mExp b - 1 : Nat) : Int) = (mExp b : Int) := by omega
  have hFa : ((mExp a : Int) - (mExp b : Int)).toNat = k := by omega
  have hlast : ((mExp a : Int) - 1).toNat = mExp a - 1 := by omega
  have hbig : ∀ c : Nat, 8388608 * 2 ^ k ≤ c → c < 16777216 * 2 ^ k → q_fit c (mExp b : Int) = (mExp a : Int) := fun c h1 h2 => by
    have hl : c.log2 = 23 + k := q_log2 (by rw [p23]; exact h1) (by rw [p24]; exact h2)
    unfold q_fit
    rw [hl]
    omega
  constructor
  · rw [e1, e2, ← Nat.add_mul, q_rnd_scale, hx1]
    rw [q_rnd_of (F := (mExp a : Int)) (n := mSig a) (by omega) (hbig _ (by omega) (by omega)) (by omega) (by omega) (by rw [hFa]; exact q_near_lo (by omega)), hlast]
    omega
  · rw [e1, e2, ← Nat.sub_mul, q_rnd_scale, hx1]
    by_cases hcase : mSig a = 8388608 ∧ 0 < mSig b
    · obtain ⟨hs, hb0⟩ := hcase
      rw [hs]
      have hPh : 2 ^ k = 2 * 2 ^ (k - 1) := FP.Core.two_pow_pred k (by omega)
      have hP26 : 2 ^ 26 ≤ 2 ^ (k - 1) := Nat.pow_le_pow_right (by decide) (by omega)
      have hl : (8388608 * 2 ^ k - mSig b).log2 = 22 + k := by
        refine q_log2 ?_ ?_
        · rw [Nat.pow_add]
          omega
        · rw [show 22 + k + 1 = 23 + k by omega, p23]
          omega
      have hF : q_fit (8388608 * 2 ^ k - mSig b) (mExp b : Int) = (mExp a : Int) - 1 := by
        unfold q_fit
        rw [hl]
        omega
      have hd : ((mExp a : Int) - 1 - (mExp b : Int)).toNat = k - 1 := by omega
      rw [q_rnd_of (F := (mExp a : Int) - 1) (n := 16777216) (by omega) hF (by omega) (by omega) (by
        rw [hd]
        have e9 : 8388608 * 2 ^ k - mSig b = 16777216 * 2 ^ (k - 1) - mSig b := by omega
        rw [e9]
        exact q_near_hi (by decide) (by omega))]
      omega
    · have hge : 8388608 * 2 ^ k ≤ mSig a * 2 ^ k - mSig b := by
        rcases Nat.eq_zero_or_pos (mSig b) with h0 | h0
        · rw [h0]
          exact hX1
        · have hs : 8388609 ≤ mSig a := by
            rcases (show mSig a = 8388608 ∨ 8388609 ≤ mSig a by omega) with h1 | h1
            · exact absurd ⟨h1, h0⟩ hcase
            · exact h1
          have := Nat.mul_le_mul_right (2 ^ k) hs
          omega
      rw [q_rnd_of (F := (mExp a : Int)) (n := mSig a) (by omega) (hbig _ hge (by omega)) (by omega) (by omega) (by rw [hFa]; exact q_near_hi (by omega) (by omega)), hlast]
      omega
theorem pVal_neg {p : Int} (h : p < 0) : pVal p = -(mVal (pMag p) : Int) := by unfold pVal; rw [if_pos h]
theorem pVal_pos {p : Int} (h : ¬ p < 0) : pVal p = (mVal (pMag p) : Int) := by unfold pVal; rw [if_neg h]
theorem pOf_mag {p : Int} : pOf (p < 0) (pMag p) = p := by
  unfold pOf pMag
  by_cases h : p < 0
  · rw [if_pos h, if_pos h]
    omega
  · rw [if_neg h, if_neg h]
    omega
/-- sums by the summands' own numbers -/
theorem pSum_alike {P Q : Int} (h : P < 0 ↔ Q < 0) : pSum P Q = pOf (P < 0) (q_rnd (mVal (pMag P) + mVal (pMag Q)) 1) := by
  unfold pSum
  by_cases hP : P < 0
  · have hQ := h.mp hP
    rw [pVal_neg hP, pVal_neg hQ]
    have e : (-(mVal (pMag P) : Int) + -(mVal (pMag Q) : Int)).natAbs = mVal (pMag P) + mVal (pMag Q) := by omega
    rw [e]
    by_cases h0 : mVal (pMag P) + mVal (pMag Q) = 0
    · rw [if_pos (by omega), if_pos ⟨hP, hQ⟩, h0]
      unfold pOf
      rw [if_pos hP]
      rfl
    · rw [if_neg (by omega)]
      unfold pOf
      rw [if_pos hP, if_pos (by omega)]
  · have hQ : ¬ Q < 0 := fun q => hP (h.mpr q)
    rw [pVal_pos hP, pVal_pos hQ]
    have e : ((mVal (pMag P) : Int) + (mVal (pMag Q) : Int)).natAbs = mVal (pMag P) + mVal (pMag Q) := by omega
    rw [e]
    by_cases h0 : mVal (pMag P) + mVal (pMag Q) = 0
    · rw [if_pos (by omega), if_neg (fun q => hP q.1), h0]
      unfold pOf
      rw [if_neg hP]
      rfl
    · rw [if_neg (by omega)]
      unfold pOf
      rw [if_neg hP, if_neg (by omega)]
theorem pSum_unlike {P Q : Int} (hPP : isP P) (h : ¬ (P < 0 ↔ Q < 0)) (hab : pMag Q < pMag P) : pSum P Q = pOf (P < 0) (q_rnd (mVal (pMag P) - mVal (pMag Q)) 1) := by
  have hlt := mVal_strict (pMag_lt hPP) hab
  unfold pSum
  by_cases hP : P < 0
  · have hQ : ¬ Q < 0 := fun q => h ⟨fun _ => q, fun _ => hP⟩
    rw [pVal_neg hP, pVal_pos hQ]
    have e : (-(mVal (pMag P) : Int) + (mVal (pMag Q) : Int)).natAbs = mVal (pMag P) - mVal (pMag Q) := by omega
    rw [e, if_neg (by omega)]
    unfold pOf
    rw [if_pos hP, if_pos (by omega)]
  · have hQ : Q < 0 := by
      rcases (show Q < 0 ∨ 0 ≤ Q by omega) with q | q
      · exact q
      · exact absurd ⟨fun x => absurd x hP, fun x => absurd x (by omega)⟩ h
    rw [pVal_pos hP, pVal_neg hQ]
    have e : ((mVal (pMag P) : Int) + -(mVal (pMag Q) : Int)).natAbs = mVal (pMag P) - mVal (pMag Q) := by omega
    rw [e, if_neg (by omega)]
    unfold pOf
    rw [if_neg hP, if_neg (by omega)]
theorem pSum_none {P Q : Int} (h : ¬ (P < 0 ↔ Q < 0)) (hab : pMag Q = pMag P) : pSum P Q = 0 := by
  unfold pSum
  have e : pVal P + pVal Q = 0 := by
    unfold pVal
    rw [hab]
    by_cases hP : P < 0
    · have hQ : ¬ Q < 0 := fun q => h ⟨fun _ => q, fun _ => hP⟩
      rw [if_pos hP, if_neg hQ]
      omega
    · have hQ : Q < 0 := by
        rcases (show Q < 0 ∨ 0 ≤ Q by omega) with q | q
        · exact q
        · exact absurd ⟨fun x => absurd x hP, fun x => absurd x (by omega)⟩ h
      rw [if_neg hP, if_pos hQ]
      omega
  rw [if_pos e, if_neg (fun q => h ⟨fun _ => q.2, fun _ => q.1⟩)]
theorem z_B161 {b : Nat} (z : Int32) {c : Nat} (hb : b < 2139095040) (hc : c < 2 ^ 61) : f_X1_sum_B161 (nI b) z (lN c) = some (Int32.ofInt (pOf (¬ z = 0) (q_rnd (c * 2 ^ (mExp b - 1)) 1))) := by
  unfold f_X1_sum_B161
  have hx := mExp_pos b
  have hxl : mExp b ≤ 254 := by
    unfold mExp
    split <;> omega
  rw [z_exp (by omega)]
  show o_b1 (f_X1_rounded z (lN c) (nI (mExp b))) _ = _
  rw [iI_nI, z_rounded z hc (by omega) (by omega), q_rnd_scale]
  have : (1 : Int) + ((mExp b - 1 : Nat) : Int) = (mExp b : Int) := by omega
  rw [this]
  rfl
theorem z_B115 {P : Int} {a b k : Nat} (al : Int32) (hP : isP P) (ha : a < 2139095040) (hba : b ≤ a) (hk : mExp a = mExp b + k) (hk26 : k ≤ 26) (hsub : al = 0 → mVal b ≤ mVal a) :
    f_X1_sum_B115 (Int32.ofInt P) (nI a) (nI b) (nI k) al = some (Int32.ofInt (pOf (P < 0) (q_rnd (if al = 0 then mVal a - mVal b else mVal a + mVal b) 1))) := by
  have hsa := mSig_lt a
  have hsb := mSig_lt b
  have hxb := mExp_pos b
  unfold isP at hP
  have e1 : mVal a = mSig a * 2 ^ k * 2 ^ (mExp b - 1) := by
    unfold mVal
    rw [Nat.mul_assoc, ← Nat.pow_add]
    congr 2
    omega
  have e2 : mVal b = mSig b * 2 ^ (mExp b - 1) := rfl
  have hpw : 2 ^ k ≤ 2 ^ 26 := Nat.pow_le_pow_right (by decide) hk26
  have hX : mSig a * 2 ^ k ≤ 16777216 * 2 ^ 26 := Nat.mul_le_mul (by omega) hpw
  have hle0 : al = 0 → mSig b ≤ mSig a * 2 ^ k := fun h => by
    have := hsub h
    rw [e1, e2] at this
    exact Nat.le_of_mul_le_mul_right this (Nat.two_pow_pos _)
  unfold f_X1_sum_B115
  rw [z_sig (by omega), z_sig (by omega)]
  simp only [o_b1, o_nm]
  rw [nI_l (n := mSig a) (by omega), nI_l (n := mSig b) (by omega), wb_shl (k := k) _ (by omega)]
  have hiff : ((0 : Int32) ≤ Int32.ofInt P) ↔ 0 ≤ P := iI_le (a := 0) (by decide) (by decide) (by omega) (by omega)
  have tail : ∀ z : Int32, f_X1_sum_B143 (nI b) al (lN (mSig a * 2 ^ k)) (lN (mSig b)) z = some (Int32.ofInt (pOf (¬ z = 0) (q_rnd (if al = 0 then mVal a - mVal b else mVal a + mVal b) 1))) := fun z => by
    unfold f_X1_sum_B143
    by_cases h0 : al = 0
    · rw [if_pos h0, if_pos h0, lN_sub (hle0 h0), z_B161 z (by omega) (by omega), Nat.sub_mul, ← e1, ← e2]
    · rw [if_neg h0, if_neg h0, lN_add, z_B161 z (by omega) (by omega), Nat.add_mul, ← e1, ← e2]
  by_cases hneg : P < 0
  · rw [if_neg (fun q => by have := hiff.mp q; omega), tail]
    congr 2
    unfold pOf
    rw [if_pos hneg, if_pos (by decide)]
  · rw [if_pos (hiff.mpr (by omega)), tail]
    congr 2
    unfold pOf
    rw [if_neg hneg, if_neg (by decide)]
theorem z_B36 {p q P Q : Int} (hp : isP p) (hq : isP q) (hPQ : (P = p ∧ Q = q) ∨ (P = q ∧ Q = p)) (hmag : pMag Q ≤ pMag P) : f_X1_sum_B36 (Int32.ofInt p) (Int32.ofInt q) (Int32.ofInt P) (Int32.ofInt Q) = some (Int32.ofInt (pSum P Q)) := by
  have hP : isP P := by rcases hPQ with h | h <;> rw [h.1] <;> assumption
  have hQ : isP Q := by rcases hPQ with h | h <;> rw [h.2] <;> assumption
  have hmP := pMag_lt hP
  have hmQ := pMag_lt hQ
  have hx := mExp_mono hmag
  have hxp : mExp (pMag P) ≤ 254 := by
    unfold mExp
    split <;> omega
  have halike : (p < 0 ↔ q < 0) ↔ (P < 0 ↔ Q < 0) := by
    rcases hPQ with h | h
    · rw [h.1, h.2]
    · rw [h.1, h.2]
      exact Iff.comm
  have hp' := hp
  have hq' := hq
  have hP' := hP
  have hQ' := hQ
  unfold isP at hp' hq' hP' hQ'
  unfold f_X1_sum_B36
  rw [z_mag (by omega) (by omega), z_mag (by omega) (by omega)]
  simp only [o_b1, o_nm]
  rw [z_exp (by omega), z_exp (by omega)]
  simp only []
  rw [pk_sub hx]
  obtain ⟨k, hk⟩ : ∃ k, mExp (pMag P) = mExp (pMag Q) + k := ⟨_, (Nat.add_sub_cancel' hx).symm⟩
  have hk' : mExp (pMag P) - mExp (pMag Q) = k := by omega
  rw [hk']
  have h26 : (nI k ≤ 26) ↔ k ≤ 26 := nI_leI (b := 26) (by omega) (by decide)
  by_cases hfar : k ≤ 26
  · rw [if_pos (h26.mpr hfar)]
    have hb99 : ∀ al : Int32, (al = 0 ↔ ¬ (P < 0 ↔ Q < 0)) → f_X1_sum_B99 (Int32.ofInt P) (nI (pMag P)) (nI (pMag Q)) (nI k) al = some (Int32.ofInt (pSum P Q)) := fun al hal => by
      unfold f_X1_sum_B99
      have heq : (nI (pMag P) = nI (pMag Q)) ↔ pMag P = pMag Q := nI_eq (by omega) (by omega)
      have hall : al = 0 → pMag P ≠ pMag Q → f_X1_sum_B115 (Int32.ofInt P) (nI (pMag P)) (nI (pMag Q)) (nI k) al = some (Int32.ofInt (pSum P Q)) := fun h0 hne => by
        rw [z_B115 al hP hmP hmag hk hfar (fun _ => mVal_mono hmag), if_pos h0, pSum_unlike hP (hal.mp h0) (by omega)]
      have hall2 : ¬ al = 0 → f_X1_sum_B115 (Int32.ofInt P) (nI (pMag P)) (nI (pMag Q)) (nI k) al = some (Int32.ofInt (pSum P Q)) := fun h0 => by
        have hiff : (P < 0 ↔ Q < 0) := by
          rcases Classical.em (P < 0 ↔ Q < 0) with h | h
          · exact h
          · exact absurd (hal.mpr h) h0
        rw [z_B115 al hP hmP hmag hk hfar (fun h => absurd h h0), if_neg h0, pSum_alike hiff]
      by_cases h1 : pMag P = pMag Q
      · rw [if_pos (heq.mpr h1)]
        by_cases h0 : al = 0
        · rw [if_pos h0, pSum_none (hal.mp h0) h1.symm]
          rfl
        · rw [if_neg h0]
          exact hall2 h0
      · rw [if_neg (fun x => h1 (heq.mp x))]
        by_cases h0 : al = 0
        · exact hall h0 h1
        · exact hall2 h0
    have hpi : ((0 : Int32) ≤ Int32.ofInt p) ↔ 0 ≤ p := iI_le (a := 0) (by decide) (by decide) (by omega) (by omega)
    have hqi : ((0 : Int32) ≤ Int32.ofInt q) ↔ 0 ≤ q := iI_le (a := 0) (by decide) (by decide) (by omega) (by omega)
    have hyes : (p < 0 ↔ q < 0) → f_X1_sum_B99 (Int32.ofInt P) (nI (pMag P)) (nI (pMag Q)) (nI k) 1 = some (Int32.ofInt (pSum P Q)) := fun h => hb99 1 ⟨fun x => absurd x (by decide), fun x => absurd (halike.mp h) x⟩
    have hno : ¬ (p < 0 ↔ q < 0) → f_X1_sum_B99 (Int32.ofInt P) (nI (pMag P)) (nI (pMag Q)) (nI k) 0 = some (Int32.ofInt (pSum P Q)) := fun h => hb99 0 ⟨fun _ x => h (halike.mpr x), fun _ => rfl⟩
    unfold f_X1_sum_B82 f_X1_sum_B91
    by_cases h1 : 0 ≤ p
    · rw [if_pos (hpi.mpr h1)]
      by_cases h2 : 0 ≤ q
      · rw [if_pos (hqi.mpr h2), if_pos rfl]
        exact hyes ⟨fun x => absurd x (by omega), fun x => absurd x (by omega)⟩
      · rw [if_neg (fun x => h2 (hqi.mp x)), if_neg (by decide)]
        exact hno (fun x => absurd (x.mpr (by omega)) (by omega))
    · rw [if_neg (fun x => h1 (hpi.mp x))]
      by_cases h2 : 0 ≤ q
      · rw [if_pos (hqi.mpr h2), if_neg (by decide)]
        exact hno (fun x => absurd (x.mp (by omega)) (by omega))
      · rw [if_neg (fun x => h2 (hqi.mp x)), if_pos rfl]
        exact hyes ⟨fun _ => by omega, fun _ => by omega⟩
  · rw [if_neg (fun x => hfar (h26.mp x))]
    congr 2
    have hf := q_far hmP (b := pMag Q) (by omega)
    by_cases hal : (P < 0 ↔ Q < 0)
    · rw [pSum_alike hal, hf.1, pOf_mag]
    · have hlt : pMag Q < pMag P := by
        rcases Nat.lt_or_ge (pMag Q) (pMag P) with h | h
        · exact h
        · have := mExp_mono h
          omega
      rw [pSum_unlike hP hal hlt, hf.2, pOf_mag]
theorem z_sum {p q : Int} (hp : isP p) (hq : isP q) : f_X1_sum (Int32.ofInt p) (Int32.ofInt q) = some (Int32.ofInt (pSum p q)) := by
  have hmp := pMag_lt hp
  have hmq := pMag_lt hq
  have hp' := hp
  have hq' := hq
  unfold isP at hp' hq'
  unfold f_X1_sum
  rw [z_mag (by omega) (by omega), z_mag (by omega) (by omega)]
  simp only [o_b1]
  have hiff : (nI (pMag p) < nI (pMag q)) ↔ pMag p < pMag q := nI_ltI (by omega) (by omega)
  by_cases h : pMag p < pMag q
  · rw [if_pos (hiff.mpr h)]
    show f_X1_sum_B36 _ _ (Int32.ofInt q) (Int32.ofInt p) = _
    rw [z_B36 hp hq (Or.inr ⟨rfl, rfl⟩) (by omega), pSum_comm]
  · rw [if_neg (fun x => h (hiff.mp x))]
    show f_X1_sum_B36 _ _ (Int32.ofInt p) (Int32.ofInt q) = _
    rw [z_B36 hp hq (Or.inl ⟨rfl, rfl⟩) (by omega)]
theorem z_product {p q : Int} (hp : isP p) (hq : isP q) : f_X1_product (Int32.ofInt p) (Int32.ofInt q) = some (Int32.ofInt (pMul p q)) := by
  have hmp := pMag_lt hp
  have hmq := pMag_lt hq
  have hxp := mExp_pos (pMag p)
  have hxq := mExp_pos (pMag q)
  have hxp2 : mExp (pMag p) ≤ 254 := by
    unfold mExp
    split <;> omega
  have hxq2 : mExp (pMag q) ≤ 254 := by
    unfold mExp
    split <;> omega
  have hsp := mSig_lt (pMag p)
  have hsq := mSig_lt (pMag q)
  have hp' := hp
  have hq' := hq
  unfold isP at hp' hq'
  have hr : q_rnd (mSig (pMag p) * mSig (pMag q)) ((mExp (pMag p) : Int) + (mExp (pMag q) : Int) - 150) = q_rnd (mVal (pMag p) * mVal (pMag q)) (-148) := by
    unfold mVal
    have e1 : mSig (pMag p) * 2 ^ (mExp (pMag p) - 1) * (mSig (pMag q) * 2 ^ (mExp (pMag q) - 1)) = mSig (pMag p) * mSig (pMag q) * 2 ^ (mExp (pMag p) - 1 + (mExp (pMag q) - 1)) := by
      rw [Nat.pow_add]
      ac_rfl
    rw [e1, q_rnd_scale]
    congr 1
    omega
  have hprod : mSig (pMag p) * mSig (pMag q) ≤ 16777216 * 16777216 := Nat.mul_le_mul (by omega) (by omega)
  have h49 : ∀ z : Int32, f_X1_product_B49 (nI (pMag p)) (nI (pMag q)) (lN (mSig (pMag p) * mSig (pMag q))) z = some (Int32.ofInt (pOf (¬ z = 0) (q_rnd (mVal (pMag p) * mVal (pMag q)) (-148)))) := fun z => by
    unfold f_X1_product_B49
    rw [z_exp (by omega), z_exp (by omega)]
    simp only [o_b1]
    have e : nI (mExp (pMag p)) + nI (mExp (pMag q)) - 150 = Int32.ofInt ((mExp (pMag p) : Int) + (mExp (pMag q) : Int) - 150) := by
      rw [iI_nI, iI_nI, ← Int32.ofInt_add]
      show Int32.ofInt _ - Int32.ofInt 150 = _
      rw [← Int32.ofInt_sub]
    rw [e, z_rounded z (by omega) (by omega) (by omega), hr]
  unfold f_X1_product
  rw [z_mag (by omega) (by omega), z_mag (by omega) (by omega)]
  simp only [o_b1, o_nm]
  rw [z_sig (by omega), z_sig (by omega)]
  simp only []
  rw [nI_l (by omega), nI_l (by omega), lN_mul]
  have hpi : ((0 : Int32) ≤ Int32.ofInt p) ↔ 0 ≤ p := iI_le (a := 0) (by decide) (by decide) (by omega) (by omega)
  have hqi : ((0 : Int32) ≤ Int32.ofInt q) ↔ 0 ≤ q := iI_le (a := 0) (by decide) (by decide) (by omega) (by omega)
  have hyes : ¬ (p < 0 ↔ q < 0) → f_X1_product_B49 (nI (pMag p)) (nI (pMag q)) (lN (mSig (pMag p) * mSig (pMag q))) 1 = some (Int32.ofInt (pMul p q)) := fun h => by
    rw [h49]
    congr 2
    unfold pMul pOf
    rw [if_pos (by decide), if_pos h]
  have hno : (p < 0 ↔ q < 0) → f_X1_product_B49 (nI (pMag p)) (nI (pMag q)) (lN (mSig (pMag p) * mSig (pMag q))) 0 = some (Int32.ofInt (pMul p q)) := fun h => by
    rw [h49]
    congr 2
    unfold pMul pOf
    rw [if_neg (by decide), if_neg (fun x => x h)]
  unfold f_X1_product_B32 f_X1_product_B41
  by_cases h1 : 0 ≤ p
  · rw [if_pos (hpi.mpr h1)]
    by_cases h2 : 0 ≤ q
    · rw [if_pos (hqi.mpr h2), if_pos rfl]
      exact hno ⟨fun x => absurd x (by omega), fun x => absurd x (by omega)⟩
    · rw [if_neg (fun x => h2 (hqi.mp x)), if_neg (by decide)]
      exact hyes (fun x => absurd (x.mpr (by omega)) (by omega))
  · rw [if_neg (fun x => h1 (hpi.mp x))]
    by_cases h2 : 0 ≤ q
    · rw [if_pos (hqi.mpr h2), if_neg (by decide)]
      exact hyes (fun x => absurd (x.mp (by omega)) (by omega))
    · rw [if_neg (fun x => h2 (hqi.mp x)), if_pos rfl]
      exact hno ⟨fun _ => by omega, fun _ => by omega⟩
