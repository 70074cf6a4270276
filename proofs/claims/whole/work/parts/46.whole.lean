/-! ===== whole numbers; wide ones made narrow ===== -/
theorem lN_ofI (n : Nat) : lN n = Int64.ofInt (n : Int) := Int64.ofInt_eq_ofNat.symm
theorem z_abs {X : Int} (h1 : -2147483648 ≤ X) (h2 : X < 2147483648) : o_absl (Int32.ofInt X).toInt64 = lN X.natAbs := by
  rw [iI_64 h1 h2]
  unfold o_absl
  have hi : ((0 : Int64) < Int64.ofInt X) ↔ 0 < X := by
    rw [Int64.lt_iff_toInt_lt, jI_T (by omega) (by omega)]
    rfl
  by_cases g : 0 < X
  · rw [if_pos (hi.mpr g), lN_ofI]
    exact congrArg Int64.ofInt (by omega)
  · rw [if_neg (fun q => g (hi.mp q)), ← Int64.ofInt_neg, lN_ofI]
    exact congrArg Int64.ofInt (by omega)
theorem pOf_t (m : Nat) {n1 n2 : Prop} [Decidable n1] [Decidable n2] (h : n1 ↔ n2) : pOf n1 m = pOf n2 m := by
  unfold pOf
  by_cases g : n1
  · rw [if_pos g, if_pos (h.mp g)]
  · rw [if_neg g, if_neg (fun q => g (h.mpr q))]
theorem y_i2f (x : Int32) : FP.i2f x = uB (decide (x.toInt < 0)) (q_rnd x.toInt.natAbs 150) := by
  have := q_encode (decide (x.toInt < 0)) x.toInt.natAbs 150
  show UInt32.ofNat (FP.Core.encode FP.Core.b32 (FP.Core.roundRatio FP.Core.b32 (decide (x.toInt < 0)) x.toInt.natAbs 1 (150 - 150))) = _
  rw [this]
  rfl
theorem whole_both (x : Int32) : ∃ w : Int, f_X1_ofWhole x = some (Int32.ofInt w) ∧ f_X8_place (FP.i2f x) = some (Int32.ofInt w) := by
  have hx := iI_in x
  refine ⟨pOf (x.toInt < 0) (q_rnd x.toInt.natAbs 150), ?_, ?_⟩
  · have ha : o_absl x.toInt64 = lN x.toInt.natAbs := by
      have := z_abs hx.1 hx.2
      rw [← Int32_of] at this
      exact this
    unfold f_X1_ofWhole f_X1_ofWhole_B9
    rw [ha, show (150 : Int32) = Int32.ofInt 150 from rfl, z_rounded 0 (by omega) (by decide) (by decide), z_rounded 1 (by omega) (by decide) (by decide), o_b1_some, o_b1_some]
    have hi : ((0 : Int32) ≤ x) ↔ 0 ≤ x.toInt := i_ge rfl
    by_cases g : 0 ≤ x.toInt
    · rw [if_pos (hi.mpr g)]
      exact congrArg some (congrArg Int32.ofInt (pOf_t _ ⟨fun q => absurd rfl q, fun q => by omega⟩))
    · rw [if_neg (fun q => g (hi.mp q))]
      exact congrArg some (congrArg Int32.ofInt (pOf_t _ ⟨fun _ => by omega, fun _ => by decide⟩))
  · rw [y_i2f, y_place (q_rnd_le _ _)]
    exact congrArg some (congrArg Int32.ofInt (pOf_t _ decide_eq_true_iff))
/-! doubles -/
def dE (n : Nat) : Nat := n / 4503599627370496 % 2048
def dT (n : Nat) : Nat := n % 4503599627370496
def dAmt (n : Nat) : Nat := if dE n = 0 then dT n else dT n + 4503599627370496
def nrw (n : Nat) : Int := pOf (9223372036854775808 ≤ n) (q_rnd (dAmt n) (max (dE n : Int) 1 - 925))
theorem z_dexp {n : Nat} (hn : n < 2 ^ 64) : f_X1_doubleExponent (lN n) = some (nI (dE n)) := by
  unfold f_X1_doubleExponent
  rw [show ((lN n).toUInt64 >>> ((52 : Int32).toInt64.toUInt64 &&& Int64.toUInt64 63)).toInt64 = lN (n / 2 ^ 52) from wb_shr (k := 52) hn (by decide), lN_i, pk_andN (by omega) 11 (by decide)]
  rfl
theorem z_dfrac {n : Nat} (hn : n < 2 ^ 64) : f_X1_doubleFraction (lN n) = some (lN (dT n)) := by
  unfold f_X1_doubleFraction
  rw [show (4503599627370495 : Int64) = lN (2 ^ 52 - 1) from rfl, wb_mask hn (by decide)]
  rfl
theorem dE_lt (n : Nat) : dE n < 2048 := Nat.mod_lt _ (by decide)
theorem dT_lt (n : Nat) : dT n < 4503599627370496 := Nat.mod_lt _ (by decide)
theorem z_nan {n : Nat} (hn : n < 2 ^ 64) : f_X1_isNotANumber (lN n) = some (bI (decide (dE n = 2047 ∧ ¬ dT n = 0))) := by
  have h1 := dE_lt n
  have h2 := dT_lt n
  unfold f_X1_isNotANumber
  rw [z_dexp hn, o_b1_some, z_dfrac hn, o_b1_some]
  have i1 : (nI (dE n) = (2047 : Int32)) ↔ dE n = 2047 := nI_eq (by omega) (by decide)
  have i2 := lg_cmp_eq0 (c := dT n) (by omega)
  by_cases g1 : dE n = 2047
  · rw [if_pos (i1.mpr g1)]
    by_cases g2 : dT n = 0
    · rw [if_pos (i2.mpr g2), decide_eq_false (fun q => q.2 g2)]
      rfl
    · rw [if_neg (fun q => g2 (i2.mp q)), decide_eq_true ⟨g1, g2⟩]
      rfl
  · rw [if_neg (fun q => g1 (i1.mp q)), decide_eq_false (fun q => g1 q.1)]
    rfl
theorem lN_tI {n : Nat} (hn : n < 2 ^ 64) : (lN n).toInt = if n < 9223372036854775808 then (n : Int) else (n : Int) - 18446744073709551616 := by
  show (BitVec.ofNat 64 n).toInt = _
  rw [BitVec.toInt_eq_toNat_cond, BitVec.toNat_ofNat, Nat.mod_eq_of_lt hn]
  split <;> split <;> omega
theorem z_ofDouble {n : Nat} (hn : n < 2 ^ 64) : f_X1_ofDouble (lN n) = some (Int32.ofInt (nrw n)) := by
  have h1 := dE_lt n
  have h2 := dT_lt n
  have b31 : ∀ (z : Int32) (c : Nat), c < 2 ^ 61 → f_X1_ofDouble_B31 (nI (dE n)) (lN c) z = some (Int32.ofInt (pOf (¬ z = 0) (q_rnd c (max (dE n : Int) 1 - 925)))) := fun z c hc => by
    unfold f_X1_ofDouble_B31
    have e : ((o_max (nI (dE n)) 1) - 1075) + 150 = Int32.ofInt (max (dE n : Int) 1 - 925) := by
      rw [iI_nI, show (1 : Int32) = Int32.ofInt 1 from rfl, z_max (by omega) (by omega) (by decide) (by decide), show (1075 : Int32) = Int32.ofInt 1075 from rfl, ← Int32.ofInt_sub, show (150 : Int32) = Int32.ofInt 150 from rfl, ← Int32.ofInt_add]
      exact congrArg Int32.ofInt (by omega)
    rw [e, z_rounded z hc (by omega) (by omega), o_b1_some]
  have hneg : (0 ≤ lg_cmp (lN n) 0) ↔ ¬ 9223372036854775808 ≤ n := by
    rw [lc_ge, lN_tI hn, show (0 : Int64).toInt = 0 from rfl]
    split <;> omega
  have b20 : ∀ c : Nat, c < 2 ^ 61 → f_X1_ofDouble_B20 (lN n) (nI (dE n)) (lN c) = some (Int32.ofInt (pOf (9223372036854775808 ≤ n) (q_rnd c (max (dE n : Int) 1 - 925)))) := fun c hc => by
    unfold f_X1_ofDouble_B20
    rw [b31 0 c hc, b31 1 c hc]
    by_cases g : 9223372036854775808 ≤ n
    · rw [if_neg (fun q => (hneg.mp q) g)]
      exact congrArg some (congrArg Int32.ofInt (pOf_t _ ⟨fun _ => g, fun _ => by decide⟩))
    · rw [if_pos (hneg.mpr g)]
      exact congrArg some (congrArg Int32.ofInt (pOf_t _ ⟨fun q => absurd rfl q, fun q => absurd q g⟩))
  unfold f_X1_ofDouble nrw dAmt
  rw [z_dexp hn, o_b1_some, z_dfrac hn, o_b1_some]
  simp only [o_nm]
  have i1 : (nI (dE n) ≤ (0 : Int32)) ↔ dE n ≤ 0 := nI_leI (b := 0) (by omega) (by decide)
  by_cases g : dE n = 0
  · rw [if_pos (i1.mpr (by omega)), if_pos g, b20 _ (by omega)]
  · rw [if_neg (fun q => g (by have := i1.mp q; omega)), if_neg g, show (4503599627370496 : Int64) = lN 4503599627370496 from rfl, lN_add, b20 _ (by omega)]
theorem dec64 {n : Nat} (hn : n < 2 ^ 64) : FP.Core.decode FP.Core.b64 n = if dE n = 2047 then (if dT n = 0 then .inf (decide (9223372036854775808 ≤ n)) else .nan) else if dE n = 0 then .fin (decide (9223372036854775808 ≤ n)) (dT n) (-1074) else .fin (decide (9223372036854775808 ≤ n)) (4503599627370496 + dT n) (-1074 + ((dE n : Int) - 1)) := by
  have hs : FP.Core.fieldS FP.Core.b64 n = decide (9223372036854775808 ≤ n) := by
    show (n / 4503599627370496 / 2048 % 2 == 1) = _
    by_cases g : 9223372036854775808 ≤ n
    · rw [decide_eq_true g, show n / 4503599627370496 / 2048 % 2 = 1 by omega]
      rfl
    · rw [decide_eq_false g, show n / 4503599627370496 / 2048 % 2 = 0 by omega]
      rfl
  unfold FP.Core.decode
  rw [hs]
  rfl
/-- the machine's float of a double that is no NaN -/
theorem y_d2f {n : Nat} (hn : n < 2 ^ 64) (h : ¬ (dE n = 2047 ∧ ¬ dT n = 0)) : ∃ m : Nat, m ≤ 2139095040 ∧ FP.d2f (UInt64.ofNat n) = uB (decide (9223372036854775808 ≤ n)) m ∧ pOf (9223372036854775808 ≤ n) m = nrw n := by
  have h1 := dE_lt n
  have h2 := dT_lt n
  have hN : (UInt64.ofNat n).toNat = n := by
    show (BitVec.ofNat 64 n).toNat = n
    rw [BitVec.toNat_ofNat, Nat.mod_eq_of_lt hn]
  have hd := dec64 hn
  have hnn : FP.Core.dIsNaN (UInt64.ofNat n) = false := by
    refine decide_eq_false ?_
    rw [hN, hd]
    by_cases g1 : dE n = 2047
    · by_cases g2 : dT n = 0
      · rw [if_pos g1, if_pos g2]
        intro q
        cases q
      · exact absurd ⟨g1, g2⟩ h
    · rw [if_neg g1]
      by_cases g3 : dE n = 0
      · rw [if_pos g3]
        intro q
        cases q
      · rw [if_neg g3]
        intro q
        cases q
  have e0 : FP.d2f (UInt64.ofNat n) = UInt32.ofNat (FP.Core.encode FP.Core.b32 (FP.Core.round FP.Core.b32 (FP.Core.decode FP.Core.b64 n))) := by
    unfold FP.d2f
    rw [if_neg (by rw [hnn]; decide)]
    show UInt32.ofNat (FP.Core.encode FP.Core.b32 (FP.Core.round FP.Core.b32 (FP.Core.decode FP.Core.b64 (UInt64.ofNat n).toNat))) = _
    rw [hN]
  refine ⟨q_rnd (dAmt n) (max (dE n : Int) 1 - 925), q_rnd_le _ _, ?_, rfl⟩
  rw [e0, hd]
  by_cases g1 : dE n = 2047
  · by_cases g2 : dT n = 0
    · rw [if_pos g1, if_pos g2]
      have ea : dAmt n = 4503599627370496 := by
        unfold dAmt
        rw [if_neg (by omega), g2]
      have ef : q_rnd (dAmt n) (max (dE n : Int) 1 - 925) = 2139095040 := by
        rw [ea, g1]
        unfold q_rnd
        rw [if_neg (by decide), if_pos (by
          have := q_fit_ge 4503599627370496 (max ((2047 : Nat) : Int) 1 - 925)
          have hl : Nat.log2 4503599627370496 = 52 := by decide +kernel
          rw [hl] at this
          omega)]
      rw [ef]
      generalize decide (9223372036854775808 ≤ n) = s
      cases s <;> decide +kernel
    · exact absurd ⟨g1, g2⟩ h
  · rw [if_neg g1]
    by_cases g3 : dE n = 0
    · rw [if_pos g3]
      have := q_encode (decide (9223372036854775808 ≤ n)) (dT n) (-924)
      have ea : dAmt n = dT n := by
        unfold dAmt
        rw [if_pos g3]
      show UInt32.ofNat (FP.Core.encode FP.Core.b32 (FP.Core.roundRatio FP.Core.b32 (decide (9223372036854775808 ≤ n)) (dT n) 1 (-924 - 150))) = _
      rw [this, ea, g3]
      rfl
    · rw [if_neg g3]
      have := q_encode (decide (9223372036854775808 ≤ n)) (4503599627370496 + dT n) ((dE n : Int) - 925)
      have ea : dAmt n = 4503599627370496 + dT n := by
        unfold dAmt
        rw [if_neg g3]
        omega
      rw [show (dE n : Int) - 925 - 150 = -1074 + ((dE n : Int) - 1) by omega] at this
      show UInt32.ofNat (FP.Core.encode FP.Core.b32 (FP.Core.roundRatio FP.Core.b32 (decide (9223372036854775808 ≤ n)) (4503599627370496 + dT n) 1 (-1074 + ((dE n : Int) - 1)))) = _
      rw [this, ea, show max (dE n : Int) 1 - 925 = (dE n : Int) - 925 by omega]
      rfl
