/-! ===== wide; the rest ===== -/
def wd (p : Int) : Nat := (if p < 0 then 9223372036854775808 else 0) + if pMag p = 0 then 0 else (mExp (pMag p) + 872 + (mSig (pMag p)).log2) * 4503599627370496 + mSig (pMag p) * 2 ^ (52 - (mSig (pMag p)).log2)
theorem mSig_0 {m : Nat} (h : ¬ m = 0) : 0 < mSig m := by
  unfold mSig
  split <;> omega
theorem sig_log {c : Nat} (h0 : 0 < c) (h : c < 16777216) : c.log2 ≤ 23 := by
  have := (Nat.log2_lt (show c ≠ 0 by omega)).mpr (show c < 2 ^ 24 from h)
  omega
theorem z_wide {p : Int} (hp : isP p) : f_X1_toDouble (Int32.ofInt p) = some (lN (wd p)) := by
  have hm := pMag_lt hp
  have hb : ∀ z : Nat, f_X1_toDouble_B16 (nI (pMag p)) (lN z) = some (lN (z + if pMag p = 0 then 0 else (mExp (pMag p) + 872 + (mSig (pMag p)).log2) * 4503599627370496 + mSig (pMag p) * 2 ^ (52 - (mSig (pMag p)).log2))) := fun z => by
    unfold f_X1_toDouble_B16
    by_cases g : pMag p = 0
    · rw [if_pos (by rw [g]; rfl), if_pos g]
      rfl
    · have hs0 := mSig_0 g
      have hs := mSig_lt (pMag p)
      have hl := sig_log hs0 hs
      have he : mExp (pMag p) ≤ 254 := by
        unfold mExp
        split <;> omega
      rw [if_neg (nI_ne0 (by omega) (by omega)), if_neg g, z_sig (by omega), o_b1_some, nI_l (by omega), z_long hs0 (by omega), o_b1_some]
      simp only [o_nm]
      have e38 : nI (63 - (mSig (pMag p)).log2) - 11 = nI (52 - (mSig (pMag p)).log2) := by
        rw [show (11 : Int32) = nI 11 from rfl, pk_sub (by omega)]
        exact congrArg nI (by omega)
      have e56 : (((nI (mExp (pMag p)) - 150) + 1075) - nI (52 - (mSig (pMag p)).log2)).toInt64 = lN (mExp (pMag p) + 872 + (mSig (pMag p)).log2) + 1 := by
        rw [iI_nI, iI_nI, show (150 : Int32) = Int32.ofInt 150 from rfl, show (1075 : Int32) = Int32.ofInt 1075 from rfl, ← Int32.ofInt_sub, ← Int32.ofInt_add, ← Int32.ofInt_sub, iI_64 (by omega) (by omega), lN_1, lN_ofI]
        exact congrArg Int64.ofInt (by omega)
      rw [z_exp (by omega), o_b1_some, e38, e56, Int64.add_sub_cancel, show lN (mExp (pMag p) + 872 + (mSig (pMag p)).log2) <<< ((52 : Int32).toInt64 &&& 63) = lN ((mExp (pMag p) + 872 + (mSig (pMag p)).log2) * 2 ^ 52) from wb_shl (k := 52) _ (by decide), wb_shl _ (by omega), lN_add, lN_add, Nat.add_assoc]
  unfold f_X1_toDouble wd
  unfold isP at hp
  rw [z_mag (by omega) (by omega), o_b1_some]
  have hi := z_0le (p := p) (by omega) (by omega)
  by_cases g : p < 0
  · rw [if_neg (fun q => hi.mp q g), if_pos g, show (-9223372036854775808 : Int64) = lN 9223372036854775808 from rfl, hb]
  · rw [if_pos (hi.mpr g), if_neg g, show (0 : Int64) = lN 0 from rfl, hb]
/-- the machine's double of a place's number -/
theorem wd_lt {p : Int} (hp : isP p) : wd p < 2 ^ 64 ∧ (wd p % 9223372036854775808 < 9218868437227405312) := by
  have hm := pMag_lt hp
  unfold wd
  by_cases g : pMag p = 0
  · rw [if_pos g]
    split <;> omega
  · have hs0 := mSig_0 g
    have hs := mSig_lt (pMag p)
    have hl := sig_log hs0 hs
    have he : mExp (pMag p) ≤ 254 := by
      unfold mExp
      split <;> omega
    have h53 : mSig (pMag p) * 2 ^ (52 - (mSig (pMag p)).log2) < 9007199254740992 := by
      have h1 := Nat.lt_log2_self (n := mSig (pMag p))
      have h2 : mSig (pMag p) * 2 ^ (52 - (mSig (pMag p)).log2) < 2 ^ ((mSig (pMag p)).log2 + 1) * 2 ^ (52 - (mSig (pMag p)).log2) := Nat.mul_lt_mul_of_pos_right h1 (Nat.two_pow_pos _)
      rw [← Nat.pow_add, show (mSig (pMag p)).log2 + 1 + (52 - (mSig (pMag p)).log2) = 53 by omega] at h2
      exact h2
    rw [if_neg g]
    split <;> omega
theorem y_f2d {p : Int} (hp : isP p) : FP.f2d (uB (decide (p < 0)) (pMag p)) = UInt64.ofNat (wd p) := by
  have hm := pMag_lt hp
  have hN := uB_nat (s := decide (p < 0)) (m := pMag p) (by omega)
  have hd := dec32 (s := decide (p < 0)) hm
  have hnn : FP.Core.fIsNaN (uB (decide (p < 0)) (pMag p)) = false := by
    refine decide_eq_false ?_
    rw [hN, hd]
    intro q
    cases q
  have e0 : FP.f2d (uB (decide (p < 0)) (pMag p)) = UInt64.ofNat (FP.Core.encode FP.Core.b64 (FP.Core.roundRatio FP.Core.b64 (decide (p < 0)) (mSig (pMag p)) 1 ((mExp (pMag p) : Int) - 150))) := by
    unfold FP.f2d
    rw [if_neg (by rw [hnn]; decide)]
    show UInt64.ofNat (FP.Core.encode FP.Core.b64 (FP.Core.round FP.Core.b64 (FP.Core.decode FP.Core.b32 (uB (decide (p < 0)) (pMag p)).toNat))) = _
    rw [hN, hd]
    rfl
  rw [e0]
  refine congrArg UInt64.ofNat ?_
  have htl : FP.Core.Fmt.tails FP.Core.b64 = 4503599627370496 := by decide +kernel
  have hex : FP.Core.Fmt.exps FP.Core.b64 = 2048 := by decide +kernel
  have hmin : FP.Core.Fmt.qmin FP.Core.b64 = -1074 := by decide +kernel
  have hmax : FP.Core.Fmt.qmax FP.Core.b64 = 971 := by decide +kernel
  have hpp : FP.Core.Fmt.p FP.Core.b64 = 53 := rfl
  unfold wd
  by_cases g : pMag p = 0
  · rw [if_pos g, g]
    have : mSig 0 = 0 := by decide
    rw [this]
    unfold FP.Core.roundRatio
    rw [if_pos rfl]
    by_cases g2 : p < 0
    · rw [decide_eq_true g2, if_pos g2]
      decide +kernel
    · rw [decide_eq_false g2, if_neg g2]
      decide +kernel
  · have hs0 := mSig_0 g
    have hs := mSig_lt (pMag p)
    have hl := sig_log hs0 hs
    have hx := mExp_pos (pMag p)
    have he : mExp (pMag p) ≤ 254 := by
      unfold mExp
      split <;> omega
    have hlo : 4503599627370496 ≤ mSig (pMag p) * 2 ^ (52 - (mSig (pMag p)).log2) := by
      have h1 := Nat.log2_self_le (n := mSig (pMag p)) (by omega)
      have h2 : 2 ^ (mSig (pMag p)).log2 * 2 ^ (52 - (mSig (pMag p)).log2) ≤ mSig (pMag p) * 2 ^ (52 - (mSig (pMag p)).log2) := Nat.mul_le_mul_right _ h1
      rw [← Nat.pow_add, show (mSig (pMag p)).log2 + (52 - (mSig (pMag p)).log2) = 52 by omega] at h2
      exact h2
    have h53 : mSig (pMag p) * 2 ^ (52 - (mSig (pMag p)).log2) < 9007199254740992 := by
      have h1 := Nat.lt_log2_self (n := mSig (pMag p))
      have h2 : mSig (pMag p) * 2 ^ (52 - (mSig (pMag p)).log2) < 2 ^ ((mSig (pMag p)).log2 + 1) * 2 ^ (52 - (mSig (pMag p)).log2) := Nat.mul_lt_mul_of_pos_right h1 (Nat.two_pow_pos _)
      rw [← Nat.pow_add, show (mSig (pMag p)).log2 + 1 + (52 - (mSig (pMag p)).log2) = 53 by omega] at h2
      exact h2
    have hr := FP.Core.roundRatio_exact (f := FP.Core.b64) (s := decide (p < 0)) (A := mSig (pMag p)) (B := 1) (c := mSig (pMag p) * 2 ^ (52 - (mSig (pMag p)).log2)) (e := (mExp (pMag p) : Int) - 150) (q := (mExp (pMag p) : Int) - 150 - (52 - (mSig (pMag p)).log2 : Nat)) FP.Core.good_b64 (by decide) (by
      unfold FP.Core.fits
      rw [hmin, hmax, htl, hpp]
      exact ⟨by omega, by omega, by omega, Or.inr hlo⟩) (by
      rw [show ((mExp (pMag p) : Int) - 150 - ((mExp (pMag p) : Int) - 150 - (52 - (mSig (pMag p)).log2 : Nat))).toNat = 52 - (mSig (pMag p)).log2 by omega, show ((mExp (pMag p) : Int) - 150 - (52 - (mSig (pMag p)).log2 : Nat) - ((mExp (pMag p) : Int) - 150)).toNat = 0 by omega, Nat.pow_zero, Nat.mul_one, Nat.mul_one])
    rw [hr, if_neg g]
    unfold FP.Core.encode FP.Core.assemble
    rw [htl, hex, hmin]
    show (if mSig (pMag p) * 2 ^ (52 - (mSig (pMag p)).log2) < 4503599627370496 then _ else _) = _
    rw [if_neg (by omega)]
    by_cases g2 : p < 0
    · rw [decide_eq_true g2, if_pos g2, show Bool.toNat true = 1 from rfl]
      omega
    · rw [decide_eq_false g2, if_neg g2, show Bool.toNat false = 0 from rfl]
      omega
theorem y_dord {n : Nat} (hn : n < 2 ^ 64) (h : ¬ (dE n = 2047 ∧ ¬ dT n = 0)) : FP.dcmp (UInt64.ofNat n) (UInt64.ofNat n) = some .eq := by
  have hN : (UInt64.ofNat n).toNat = n := by
    show (BitVec.ofNat 64 n).toNat = n
    rw [BitVec.toNat_ofNat, Nat.mod_eq_of_lt hn]
  show FP.Core.order (FP.Core.decode FP.Core.b64 (UInt64.ofNat n).toNat) (FP.Core.decode FP.Core.b64 (UInt64.ofNat n).toNat) = _
  rw [hN]
  refine ord_self ?_
  rw [dec64 hn]
  by_cases g1 : dE n = 2047
  · by_cases g2 : dT n = 0
    · rw [if_pos g1, if_pos g2]
      intro q
      cases q
    · exact absurd ⟨g1, g2⟩ h
  · rw [if_neg g1]
    by_cases g3 : dE n = 0
    · rw [if_pos g3]
      intro q
      cases q
    · rw [if_neg g3]
      intro q
      cases q
theorem y_dbits {x : UInt64} (h : FP.dcmp x x = some .eq) : f_Jxe99ae_doubleToLongBits_ccdee x = some x.toInt64 := by
  unfold f_Jxe99ae_doubleToLongBits_ccdee f_Jxe99ae_isNaN_b9ae7
  rw [h, if_pos (by decide), o_b1_some, if_pos rfl]
theorem y_dok {n : Nat} (hn : n < 2 ^ 64) (h : n % 9223372036854775808 < 9218868437227405312) : (UInt64.ofNat n &&& 0x7fffffffffffffff ≤ (0x7ff0000000000000 : UInt64)) := by
  have hN : (UInt64.ofNat n).toNat = n := by
    show (BitVec.ofNat 64 n).toNat = n
    rw [BitVec.toNat_ofNat, Nat.mod_eq_of_lt hn]
  rw [UInt64.le_iff_toNat_le, UInt64.toNat_and, hN]
  show n &&& (2 ^ 63 - 1) ≤ _
  rw [Nat.and_two_pow_sub_one_eq_mod]
  show n % 9223372036854775808 ≤ 9218868437227405312
  omega
section calls
variable {N : Nat} {nu nr : Int32} {nl nh nk nx ny nz : Nat → Int32} {hc hn : Int32} {hr : Nat → g_MV} {sv st sf sb : Int32} {sp : Nat → Int32} {tl : Int32} {tb rf : Nat → Int32} {all past : Nat → Int32} {ss : Int32} {rr rt : Nat → Int32} {rl : Int32}
theorem L_whole (x1 : Int32) : ∃ r, f_X7_whole x1 = some r ∧ f_X8_whole x1 = some r := by
  obtain ⟨w, h1, h2⟩ := whole_both x1
  unfold f_X7_whole f_X8_whole
  rw [h1, o_b1_some, h2, o_b1_some]
  exact ⟨_, rfl, rfl⟩
theorem L_wide (hRel : Rel N nu nr nl nh nk nx ny nz hc hn hr sv st sf sb sp tl tb rf all past ss rr rt rl) (x1 : Int32) : ∃ r o_rf o_rr, f_X7_wide rf x1 = some (r, o_rf) ∧ f_X8_wide rr x1 = some (r, o_rr) ∧ Rel N nu nr nl nh nk nx ny nz hc hn hr sv st sf sb sp tl tb o_rf all past ss o_rr rt rl := by
  obtain ⟨S, h, Hs, tn, hS, hC, hR, hH, hcc, hrr, hs, hrf, htn, htl, hrl, hrt, htb⟩ := hRel
  subst hrf
  unfold f_X7_wide f_X8_wide
  rw [z_isPlace, o_b1_some, y_isPlace, o_b1_some, ref_same, ref_bad, o_b2_some]
  try rw [o_b2_some]
  by_cases g : -2139095040 ≤ x1.toInt ∧ x1.toInt ≤ 2139095039
  · rw [decide_eq_true g, if_neg bI_t, if_neg bI_t]
    have s1 := z_wide (p := x1.toInt) g
    have s2 := y_number (p := x1.toInt) g
    rw [← Int32_of] at s1 s2
    obtain ⟨w1, w2⟩ := wd_lt (p := x1.toInt) g
    have hnn : ¬ (dE (wd x1.toInt) = 2047 ∧ ¬ dT (wd x1.toInt) = 0) := by
      unfold dE
      omega
    rw [s1, o_b1_some, s2, o_b1_some, y_f2d g, decide_eq_true (y_dok w1 w2), o_ck_true, y_dbits (y_dord w1 hnn), o_b1_some]
    exact ⟨_, _, _, rfl, rfl, S, h, Hs, tn, hS, hC, hR, hH, hcc, hrr, hs, rfl, htn, htl, hrl, hrt, htb⟩
  · rw [decide_eq_false g, if_pos bI_f, if_pos bI_f]
    exact ⟨_, _, _, rfl, rfl, S, h, Hs, tn, hS, hC, hR, hH, hcc, hrr, hs, rfl, htn, htl, hrl, hrt, htb⟩
end calls
