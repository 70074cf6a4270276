/-! ===== the reference's reckoning by floats: what it comes to ===== -/
def uB (s : Bool) (m : Nat) : UInt32 := UInt32.ofNat (s.toNat * 2147483648 + m)
theorem uB_nat {s : Bool} {m : Nat} (h : m < 2147483648) : (uB s m).toNat = s.toNat * 2147483648 + m := by
  unfold uB
  rw [UInt32.toNat_ofNat']
  cases s
  · show (0 * 2147483648 + m) % 4294967296 = _
    exact Nat.mod_eq_of_lt (by omega)
  · show (1 * 2147483648 + m) % 4294967296 = _
    exact Nat.mod_eq_of_lt (by omega)
theorem dec32 {s : Bool} {m : Nat} (h : m < 2139095040) : FP.Core.decode FP.Core.b32 (s.toNat * 2147483648 + m) = .fin s (mSig m) ((mExp m : Int) - 150) := by
  have hmin : FP.Core.Fmt.qmin FP.Core.b32 = -149 := by decide +kernel
  have htl : FP.Core.Fmt.tails FP.Core.b32 = 8388608 := by decide +kernel
  have hex : FP.Core.Fmt.exps FP.Core.b32 = 256 := by decide +kernel
  have ha : s.toNat * 2147483648 + m = FP.Core.assemble FP.Core.b32 s (m / 8388608) (m % 8388608) := by
    unfold FP.Core.assemble
    rw [htl, hex]
    omega
  rw [ha, FP.Core.decode_assemble _ _ _ _ (by rw [hex]; omega) (by rw [htl]; omega), hex, hmin, htl, if_neg (by omega)]
  unfold mSig mExp
  by_cases h8 : m < 8388608
  · rw [if_pos (by omega), if_pos h8, if_pos h8]
    congr 1
    omega
  · rw [if_neg (by omega), if_neg h8, if_neg h8]
    congr 1
    omega
theorem dec32i {s : Bool} : FP.Core.decode FP.Core.b32 (s.toNat * 2147483648 + 2139095040) = .inf s := by cases s <;> decide +kernel
theorem ord_self {d : FP.Core.Datum} (h : d ≠ .nan) : FP.Core.order d d = some .eq := by
  cases d with
  | nan => exact absurd rfl h
  | inf s => cases s <;> rfl
  | fin s c q =>
    show some (compareOfLessAndEq _ _) = _
    unfold compareOfLessAndEq
    rw [if_neg (Int.lt_irrefl _), if_pos rfl]
theorem uB_ord {s : Bool} {m : Nat} (h : m ≤ 2139095040) : FP.fcmp (uB s m) (uB s m) = some .eq := by
  show FP.Core.order (FP.Core.decode FP.Core.b32 (uB s m).toNat) (FP.Core.decode FP.Core.b32 (uB s m).toNat) = _
  rw [uB_nat (by omega)]
  refine ord_self ?_
  rcases (show m < 2139095040 ∨ m = 2139095040 by omega) with h1 | h1
  · rw [dec32 h1]
    intro q
    cases q
  · rw [h1, dec32i]
    intro q
    cases q
theorem uB_I {s : Bool} {m : Nat} (h : m < 2147483648) : ((uB s m).toInt32).toInt = if s then (m : Int) - 2147483648 else (m : Int) := by
  have hN := uB_nat (s := s) h
  have : ((uB s m).toInt32).toInt = ((uB s m).toNat : Int).bmod 4294967296 := by
    show ((uB s m).toBitVec).toInt = _
    rw [BitVec.toInt_eq_toNat_bmod]
    rfl
  rw [this, hN, Int.bmod_def]
  cases s
  · show _ = (m : Int)
    have e : ((Bool.toNat false * 2147483648 + m : Nat) : Int) = (m : Int) := by
      show ((0 * 2147483648 + m : Nat) : Int) = _
      omega
    rw [e]
    omega
  · show _ = (m : Int) - 2147483648
    have e : ((Bool.toNat true * 2147483648 + m : Nat) : Int) = (m : Int) + 2147483648 := by
      show ((1 * 2147483648 + m : Nat) : Int) = _
      omega
    rw [e]
    omega
/-- 'place' of a float's bits -/
theorem o_b1_some {α β : Type} (a : α) (k : α → Option β) : o_b1 (some a) k = k a := rfl
theorem o_ck_true {β : Type} (k : Option β) : o_ck true k = k := if_pos rfl
theorem y_nan {x : UInt32} (h : FP.fcmp x x = some .eq) : f_Jxf58ca_isNaN_12338 x = some 0 := by
  unfold f_Jxf58ca_isNaN_12338
  rw [h]
  rfl
theorem y_bits {x : UInt32} (h : FP.fcmp x x = some .eq) : f_Jxf58ca_floatToIntBits_5c35a x = some x.toInt32 := by
  unfold f_Jxf58ca_floatToIntBits_5c35a
  rw [y_nan h, o_b1_some, if_pos rfl]
theorem y_place1 {x : UInt32} (h : FP.fcmp x x = some .eq) : f_X8_place x = if x.toInt32 < 0 then some ((-1) - (x.toInt32 &&& 2147483647)) else some x.toInt32 := by
  unfold f_X8_place
  rw [y_bits h, o_b1_some]
theorem y_place0 {s : Bool} {m : Nat} (h : m ≤ 2139095040) : f_X8_place (uB s m) = if (uB s m).toInt32 < 0 then some ((-1) - ((uB s m).toInt32 &&& 2147483647)) else some (uB s m).toInt32 := y_place1 (uB_ord h)
theorem uB_and {m : Nat} (h : m < 2147483648) : (uB true m).toInt32 &&& 2147483647 = nI m := by
  have hN := uB_nat (s := true) h
  generalize uB true m = x at hN ⊢
  rw [pk_and _ 31 (by decide)]
  refine congrArg nI ?_
  have e : x.toInt32.toBitVec.toNat = x.toNat := rfl
  rw [e, hN]
  show (1 * 2147483648 + m) % 2147483648 = m
  omega
theorem y_place {s : Bool} {m : Nat} (h : m ≤ 2139095040) : f_X8_place (uB s m) = some (Int32.ofInt (pOf (s = true) m)) := by
  rw [y_place0 h]
  have hI := uB_I (s := s) (m := m) (by omega)
  have hA := uB_and (m := m) (by omega)
  unfold pOf
  cases s with
  | false =>
    have hI' : ((uB false m).toInt32).toInt = (m : Int) := hI
    generalize (uB false m).toInt32 = x at hI' ⊢
    have hn : ¬ x < 0 := by
      rw [Int32.lt_iff_toInt_lt, hI']
      show ¬ (m : Int) < 0
      omega
    rw [if_neg hn, if_neg (by decide)]
    refine congrArg some ?_
    rw [← Int32.toInt_inj, hI', iI_T (by omega) (by omega)]
  | true =>
    have hI' : ((uB true m).toInt32).toInt = (m : Int) - 2147483648 := hI
    generalize (uB true m).toInt32 = x at hI' hA ⊢
    have hn : x < 0 := by
      rw [Int32.lt_iff_toInt_lt, hI']
      show (m : Int) - 2147483648 < 0
      omega
    rw [if_pos hn, if_pos rfl, hA, iI_nI, Int32.ofInt_sub]
    rfl
/-- 'number' of a place -/
theorem y_number {p : Int} (h : isP p) : f_X8_number (Int32.ofInt p) = some (uB (decide (p < 0)) (pMag p)) := by
  have hm := pMag_lt h
  unfold isP at h
  unfold f_X8_number
  have hsn : ∀ (b : Int32) (s : Bool), b.toUInt32 = uB s (pMag p) → f_X8_number_B14 b = some (uB s (pMag p)) := fun b s hb => by
    unfold f_X8_number_B14
    have hv : vn_sni2f b = false := by
      unfold vn_sni2f
      have : ¬ (b.toUInt32 &&& 0x7fffffff > 0x7f800000) := by
        rw [hb]
        intro q
        have q' : (0x7f800000 : UInt32).toNat < (uB s (pMag p) &&& 0x7fffffff).toNat := UInt32.lt_iff_toNat_lt.mp q
        rw [UInt32.toNat_and] at q'
        have e7 : (0x7fffffff : UInt32).toNat = 2 ^ 31 - 1 := by decide
        rw [e7, Nat.and_two_pow_sub_one_eq_mod, uB_nat (by omega)] at q'
        have e8 : (0x7f800000 : UInt32).toNat = 2139095040 := by decide
        rw [e8] at q'
        cases s
        · have : (Bool.toNat false * 2147483648 + pMag p) % 2 ^ 31 = pMag p := by
            show (0 * 2147483648 + pMag p) % 2147483648 = _
            omega
          omega
        · have : (Bool.toNat true * 2147483648 + pMag p) % 2 ^ 31 = pMag p := by
            show (1 * 2147483648 + pMag p) % 2147483648 = _
            omega
          omega
      simp [this]
    rw [hv, hb]
    rfl
  have hlt : (Int32.ofInt p < 0) ↔ p < 0 := iI_lt (b := 0) (by omega) (by omega) (by decide) (by decide)
  by_cases hp : p < 0
  · rw [if_pos (hlt.mpr hp), decide_eq_true hp]
    refine hsn _ true ?_
    have e1 : (-1 : Int32) - Int32.ofInt p = nI (pMag p) := by
      rw [iI_nI]
      show Int32.ofInt (-1) - _ = _
      rw [← Int32.ofInt_sub]
      congr 1
      unfold pMag
      rw [if_pos hp]
      omega
    rw [e1]
    apply UInt32.toNat_inj.mp
    rw [uB_nat (by omega)]
    have e2 : ((-2147483648 : Int32) ||| nI (pMag p)).toUInt32.toNat = (-2147483648 : Int32).toBitVec.toNat ||| (nI (pMag p)).toBitVec.toNat := by
      show ((-2147483648 : Int32) ||| nI (pMag p)).toBitVec.toNat = _
      rw [Int32.toBitVec_or, BitVec.toNat_or]
    rw [e2, pk_tn (by omega)]
    have e3 : (-2147483648 : Int32).toBitVec.toNat = 2 ^ 31 := by decide
    rw [e3]
    show 2 ^ 31 ||| pMag p = 1 * 2147483648 + pMag p
    have := Nat.two_pow_add_eq_or_of_lt (i := 31) (b := pMag p) (by omega) 1
    rw [Nat.mul_one] at this
    rw [← this]
  · rw [if_neg (fun q => hp (hlt.mp q)), decide_eq_false hp]
    refine hsn _ false ?_
    have e1 : Int32.ofInt p = nI (pMag p) := by
      rw [iI_nI]
      congr 1
      unfold pMag
      rw [if_neg hp]
      omega
    rw [e1]
    apply UInt32.toNat_inj.mp
    rw [uB_nat (by omega)]
    show (nI (pMag p)).toBitVec.toNat = 0 * 2147483648 + pMag p
    rw [pk_tn (by omega)]
    omega
theorem uB_ok {s : Bool} {m : Nat} (h : m ≤ 2139095040) : (uB s m &&& 0x7fffffff ≤ (0x7f800000 : UInt32)) := by
  rw [UInt32.le_iff_toNat_le, UInt32.toNat_and]
  have e7 : (0x7fffffff : UInt32).toNat = 2 ^ 31 - 1 := by decide
  have e8 : (0x7f800000 : UInt32).toNat = 2139095040 := by decide
  rw [e7, Nat.and_two_pow_sub_one_eq_mod, uB_nat (by omega), e8]
  cases s
  · show (0 * 2147483648 + m) % 2147483648 ≤ _
    omega
  · show (1 * 2147483648 + m) % 2147483648 ≤ _
    omega
theorem sgn_val (p : Int) : FP.Core.signed (decide (p < 0)) (mVal (pMag p)) = pVal p := by
  unfold FP.Core.signed pVal
  by_cases h : p < 0
  · rw [decide_eq_true h, if_pos h, if_pos rfl]
  · rw [decide_eq_false h, if_neg h, if_neg (by decide)]
theorem sgn_mul (s : Bool) (c k : Nat) : FP.Core.signed s (c * k) = FP.Core.signed s c * (k : Int) := by
  unfold FP.Core.signed
  cases s
  · rw [if_neg (by decide), if_neg (by decide), Int.natCast_mul]
  · rw [if_pos rfl, if_pos rfl, Int.natCast_mul, Int.neg_mul]
/-- the machine's sum of two places' numbers -/
theorem y_fadd {p q : Int} (hp : isP p) (hq : isP q) : ∃ (s : Bool) (m : Nat), m ≤ 2139095040 ∧ FP.fadd (uB (decide (p < 0)) (pMag p)) (uB (decide (q < 0)) (pMag q)) = uB s m ∧ pOf (s = true) m = pSum p q := by
  have hmp := pMag_lt hp
  have hmq := pMag_lt hq
  have hxp := mExp_pos (pMag p)
  have hxq := mExp_pos (pMag q)
  generalize he : min ((mExp (pMag p) : Int) - 150) ((mExp (pMag q) : Int) - 150) = e
  generalize hv : FP.Core.sumUnits (decide (p < 0)) (mSig (pMag p)) ((mExp (pMag p) : Int) - 150) (decide (q < 0)) (mSig (pMag q)) ((mExp (pMag q) : Int) - 150) e = v
  have hk : -149 ≤ e := by omega
  have hV : v * ((2 ^ (e + 149).toNat : Nat) : Int) = pVal p + pVal q := by
    rw [← hv]
    unfold FP.Core.sumUnits FP.Core.inUnits
    rw [Int.add_mul, ← sgn_mul, ← sgn_mul, Nat.mul_assoc, Nat.mul_assoc, ← Nat.pow_add, ← Nat.pow_add]
    have e1 : ((mExp (pMag p) : Int) - 150 - e).toNat + (e + 149).toNat = mExp (pMag p) - 1 := by omega
    have e2 : ((mExp (pMag q) : Int) - 150 - e).toNat + (e + 149).toNat = mExp (pMag q) - 1 := by omega
    rw [e1, e2]
    show FP.Core.signed _ (mVal (pMag p)) + FP.Core.signed _ (mVal (pMag q)) = _
    rw [sgn_val, sgn_val]
  have hpw : (0 : Int) < ((2 ^ (e + 149).toNat : Nat) : Int) := by
    have := Nat.two_pow_pos (e + 149).toNat
    omega
  have hz : v = 0 ↔ pVal p + pVal q = 0 := by
    rw [← hV]
    constructor
    · intro h
      rw [h, Int.zero_mul]
    · intro h
      rcases Int.mul_eq_zero.mp h with h | h
      · exact h
      · omega
  have hneg : v < 0 ↔ pVal p + pVal q < 0 := by
    rw [← hV]
    constructor
    · intro h
      exact Int.mul_neg_of_neg_of_pos h hpw
    · intro h
      rcases (show v < 0 ∨ 0 ≤ v by omega) with h1 | h1
      · exact h1
      · have := Int.mul_nonneg h1 (Int.le_of_lt hpw)
        omega
  have hr : q_rnd v.natAbs (e + 150) = q_rnd (pVal p + pVal q).natAbs 1 := by
    rw [← hV, Int.natAbs_mul, Int.natAbs_natCast, q_rnd_scale]
    congr 1
    omega
  refine ⟨FP.Core.sumSign (decide (p < 0)) (decide (q < 0)) v, q_rnd (pVal p + pVal q).natAbs 1, q_rnd_le _ _, ?_, ?_⟩
  · show UInt32.ofNat (FP.Core.encode FP.Core.b32 (FP.Core.round FP.Core.b32 (FP.Core.exactSum (FP.Core.decode FP.Core.b32 (uB (decide (p < 0)) (pMag p)).toNat) (FP.Core.decode FP.Core.b32 (uB (decide (q < 0)) (pMag q)).toNat)))) = _
    rw [uB_nat (by omega), uB_nat (by omega), dec32 hmp, dec32 hmq]
    show UInt32.ofNat (FP.Core.encode FP.Core.b32 (FP.Core.roundRatio FP.Core.b32 (FP.Core.sumSign _ _ (FP.Core.sumUnits _ _ _ _ _ _ (min ((mExp (pMag p) : Int) - 150) ((mExp (pMag q) : Int) - 150)))) (FP.Core.sumUnits _ _ _ _ _ _ (min ((mExp (pMag p) : Int) - 150) ((mExp (pMag q) : Int) - 150))).natAbs 1 (min ((mExp (pMag p) : Int) - 150) ((mExp (pMag q) : Int) - 150)))) = _
    rw [he, hv]
    have := q_encode (FP.Core.sumSign (decide (p < 0)) (decide (q < 0)) v) v.natAbs (e + 150)
    rw [show e + 150 - 150 = e by omega] at this
    rw [this, hr]
    rfl
  · unfold pSum FP.Core.sumSign
    by_cases h0 : v = 0
    · rw [if_pos h0, if_pos (hz.mp h0)]
      have h1 : (pVal p + pVal q).natAbs = 0 := by rw [hz.mp h0]; rfl
      rw [h1]
      unfold pOf
      by_cases hb : p < 0 ∧ q < 0
      · rw [if_pos hb, decide_eq_true hb.1, decide_eq_true hb.2]
        rfl
      · rw [if_neg hb, if_neg (by simpa using hb)]
        rfl
    · rw [if_neg h0, if_neg (fun h => h0 (hz.mpr h))]
      unfold pOf
      by_cases hn : v < 0
      · rw [if_pos (decide_eq_true hn), if_pos (hneg.mp hn)]
      · rw [if_neg (by simpa using hn), if_neg (fun h => hn (hneg.mpr h))]
/-- the machine's product of two places' numbers -/
theorem y_fmul {p q : Int} (hp : isP p) (hq : isP q) : ∃ (s : Bool) (m : Nat), m ≤ 2139095040 ∧ FP.fmul (uB (decide (p < 0)) (pMag p)) (uB (decide (q < 0)) (pMag q)) = uB s m ∧ pOf (s = true) m = pMul p q := by
  have hmp := pMag_lt hp
  have hmq := pMag_lt hq
  have hxp := mExp_pos (pMag p)
  have hxq := mExp_pos (pMag q)
  have hr : q_rnd (mSig (pMag p) * mSig (pMag q)) ((mExp (pMag p) : Int) - 150 + ((mExp (pMag q) : Int) - 150) + 150) = q_rnd (mVal (pMag p) * mVal (pMag q)) (-148) := by
    unfold mVal
    have e1 : mSig (pMag p) * 2 ^ (mExp (pMag p) - 1) * (mSig (pMag q) * 2 ^ (mExp (pMag q) - 1)) = mSig (pMag p) * mSig (pMag q) * 2 ^ (mExp (pMag p) - 1 + (mExp (pMag q) - 1)) := by
      rw [Nat.pow_add]
      ac_rfl
    rw [e1, q_rnd_scale]
    congr 1
    omega
  refine ⟨decide (p < 0) != decide (q < 0), q_rnd (mVal (pMag p) * mVal (pMag q)) (-148), q_rnd_le _ _, ?_, ?_⟩
  · show UInt32.ofNat (FP.Core.encode FP.Core.b32 (FP.Core.round FP.Core.b32 (FP.Core.exactProduct (FP.Core.decode FP.Core.b32 (uB (decide (p < 0)) (pMag p)).toNat) (FP.Core.decode FP.Core.b32 (uB (decide (q < 0)) (pMag q)).toNat)))) = _
    rw [uB_nat (by omega), uB_nat (by omega), dec32 hmp, dec32 hmq]
    show UInt32.ofNat (FP.Core.encode FP.Core.b32 (FP.Core.roundRatio FP.Core.b32 (decide (p < 0) != decide (q < 0)) (mSig (pMag p) * mSig (pMag q)) 1 ((mExp (pMag p) : Int) - 150 + ((mExp (pMag q) : Int) - 150)))) = _
    have := q_encode (decide (p < 0) != decide (q < 0)) (mSig (pMag p) * mSig (pMag q)) ((mExp (pMag p) : Int) - 150 + ((mExp (pMag q) : Int) - 150) + 150)
    rw [show (mExp (pMag p) : Int) - 150 + ((mExp (pMag q) : Int) - 150) + 150 - 150 = (mExp (pMag p) : Int) - 150 + ((mExp (pMag q) : Int) - 150) by omega] at this
    rw [this, hr]
    rfl
  · unfold pMul pOf
    by_cases h1 : p < 0
    · by_cases h2 : q < 0
      · simp [h1, h2]
      · simp [h1, h2]
    · by_cases h2 : q < 0
      · simp [h1, h2]
      · simp [h1, h2]
theorem y_sum {p q : Int} (hp : isP p) (hq : isP q) : f_X8_sum (Int32.ofInt p) (Int32.ofInt q) = some (Int32.ofInt (pSum p q)) := by
  obtain ⟨s, m, hm, he, ho⟩ := y_fadd hp hq
  unfold f_X8_sum
  rw [y_number hp, o_b1_some, y_number hq, o_b1_some, he, decide_eq_true (uB_ok hm), o_ck_true, y_place hm, o_b1_some, ho]
theorem y_product {p q : Int} (hp : isP p) (hq : isP q) : f_X8_product (Int32.ofInt p) (Int32.ofInt q) = some (Int32.ofInt (pMul p q)) := by
  obtain ⟨s, m, hm, he, ho⟩ := y_fmul hp hq
  unfold f_X8_product
  rw [y_number hp, o_b1_some, y_number hq, o_b1_some, he, decide_eq_true (uB_ok hm), o_ck_true, y_place hm, o_b1_some, ho]
