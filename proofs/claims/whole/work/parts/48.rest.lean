/-! ===== what is left over; wide numbers made narrow ===== -/
def pRem (p q : Int) : Int := pOf (p < 0) (q_rnd (mVal (pMag p) % mVal (pMag q)) 1)
theorem rem_mul (x y d : Nat) : x % d * y % d = x * y % d := by
  rw [Nat.mul_mod, Nat.mod_mod, ← Nat.mul_mod]
theorem mExp_le {m : Nat} (h : m < 2139095040) : mExp m ≤ 254 := by
  unfold mExp
  split <;> omega
theorem z_rem87 {p : Int} {b ov : Nat} {N : Nat} (z : Int32) (hb : b < 2139095040) (ho : ov < 16777216) (hz : (¬ z = 0) ↔ p < 0) : f_X1_remainder_B87 N (nI b) (lN ov) z = some (Int32.ofInt (pOf (p < 0) (q_rnd ov (mExp b)))) := by
  have he := mExp_le hb
  unfold f_X1_remainder_B87
  rw [z_exp (by omega), o_b1_some, iI_nI, z_rounded z (by omega) (by omega) (by omega), o_b1_some]
  exact congrArg some (congrArg Int32.ofInt (pOf_t _ hz))
theorem rem_min {k : Int} (h0 : 0 < k) (h3 : k ≤ 300) : o_min (Int32.ofInt k) 32 = nI (min k.toNat 32) := by
  unfold o_min
  have i : ((32 : Int32) < Int32.ofInt k) ↔ 32 < k := by
    rw [Int32.lt_iff_toInt_lt, iI_T (by omega) (by omega)]
    exact Iff.rfl
  by_cases g2 : 32 < k
  · rw [if_pos (i.mpr g2), show min k.toNat 32 = 32 by omega]
    rfl
  · rw [if_neg (fun q => g2 (i.mp q)), iI_nI]
    exact congrArg Int32.ofInt (by omega)
theorem rem_e32 (k : Int) : Int32.ofInt k + (-32) = Int32.ofInt (k - 32) := by
  rw [show (-32 : Int32) = Int32.ofInt (-32) by decide, ← Int32.ofInt_add]
  exact congrArg Int32.ofInt (by omega)
theorem rem_lt {ov d m : Nat} (h : ov < d) (hd : d < 16777216) (hm : m ≤ 32) : ov * 2 ^ m < 2 ^ 63 := by
  have h5 : ov * 2 ^ m ≤ 16777216 * 2 ^ 32 := Nat.mul_le_mul (by omega) (Nat.pow_le_pow_right (by decide) hm)
  have h6 : 16777216 * 2 ^ 32 < 2 ^ 63 := by decide
  exact Nat.lt_of_le_of_lt h5 h6
theorem rem_le0 {k : Int} (h1 : -32 ≤ k) (h2 : k ≤ 300) : Int32.ofInt k ≤ 0 ↔ k ≤ 0 := by
  rw [Int32.le_iff_toInt_le, iI_T (by omega) (by omega)]
  exact Iff.rfl
theorem rem_d0 {d : Nat} (h0 : 0 < d) (h : d < 16777216) : ¬ lN d = 0 := fun q => by
  have := (pk_lEQ (a := d) (b := 0) (by omega) (by decide)).mp q
  omega
theorem z_remx {p : Int} {b d N : Nat} (hp : isP p) (hb : b < 2139095040) (hd : d < 16777216) (ov : Nat) (k : Int) (h1 : ov < d) (h2 : k ≤ 0) : (if 0 ≤ Int32.ofInt p then f_X1_remainder_B87 N (nI b) (lN ov) 0 else f_X1_remainder_B87 N (nI b) (lN ov) 1) = some (Int32.ofInt (pOf (p < 0) (q_rnd (ov * 2 ^ k.toNat % d) (mExp b)))) := by
  have hp' := hp
  unfold isP at hp'
  have hi := z_0le (p := p) (by omega) (by omega)
  rw [show k.toNat = 0 by omega, Nat.pow_zero, Nat.mul_one, Nat.mod_eq_of_lt h1]
  by_cases g : p < 0
  · rw [if_neg (fun q => hi.mp q g), z_rem87 1 hb (by omega) ⟨fun _ => g, fun _ => by decide⟩]
  · rw [if_pos (hi.mpr g), z_rem87 0 hb (by omega) ⟨fun q => absurd rfl q, fun q => absurd q g⟩]
theorem rem_step {d ov : Nat} {k : Int} (hd0 : 0 < d) (hd : d < 16777216) (h1 : ov < d) (g : 0 < k) (h4 : k ≤ 300) (K : Int64 → Int32 → Option Int32) : o_nm ((lN ov <<< ((o_min (Int32.ofInt k) 32).toInt64 &&& 63)) - (lN ov <<< ((o_min (Int32.ofInt k) 32).toInt64 &&& 63)) / lN d * lN d) (fun (t70 : Int64) => K t70 (Int32.ofInt k + (-32))) = K (lN (ov * 2 ^ (min k.toNat 32) % d)) (Int32.ofInt (k - 32)) := by
  have e1 := wb_shl ov (k := min k.toNat 32) (by omega)
  have e2 := pk_lRem (rem_lt (m := min k.toNat 32) h1 hd (by omega)) hd0 (b := d) (by omega)
  unfold o_nm
  rw [rem_min g h4, e1, e2, rem_e32]
theorem rem_fin {ov d : Nat} {k : Int} (g : 0 < k) : ov * 2 ^ (min k.toNat 32) % d * 2 ^ (k - 32).toNat % d = ov * 2 ^ k.toNat % d := by
  rw [rem_mul, Nat.mul_assoc, ← Nat.pow_add, show min k.toNat 32 + (k - 32).toNat = k.toNat by omega]
theorem z_rem52 {p : Int} {b d N : Nat} (hp : isP p) (hb : b < 2139095040) (hd0 : 0 < d) (hd : d < 16777216) : ∀ (F ov : Nat) (k : Int), ov < d → -32 ≤ k → k ≤ 32 * (F : Int) → k ≤ 300 → f_X1_remainder_L52 N (F + 1) (Int32.ofInt p) (nI b) (lN d) (lN ov) (Int32.ofInt k) = some (Int32.ofInt (pOf (p < 0) (q_rnd (ov * 2 ^ k.toNat % d) (mExp b)))) := by
  intro F
  induction F with
  | zero =>
    intro ov k h1 h2 h3 h4
    rw [show f_X1_remainder_L52 N (0 + 1) = f_X1_remainder_C52 N (f_X1_remainder_L52 N 0) from rfl]
    unfold f_X1_remainder_C52
    rw [if_pos ((rem_le0 h2 h4).mpr (by omega))]
    exact z_remx hp hb hd ov k h1 (by omega)
  | succ F ih =>
    intro ov k h1 h2 h3 h4
    rw [show f_X1_remainder_L52 N (F + 1 + 1) = f_X1_remainder_C52 N (f_X1_remainder_L52 N (F + 1)) from rfl]
    unfold f_X1_remainder_C52
    by_cases g : k ≤ 0
    · rw [if_pos ((rem_le0 h2 h4).mpr g)]
      exact z_remx hp hb hd ov k h1 g
    · rw [if_neg (fun q => g ((rem_le0 h2 h4).mp q)), decide_eq_true (rem_d0 hd0 hd), o_ck_true]
      refine Eq.trans (rem_step hd0 hd h1 (by omega) h4 (fun t z => f_X1_remainder_L52 N (F + 1) (Int32.ofInt p) (nI b) (lN d) t z)) ?_
      refine Eq.trans (ih _ (k - 32) (Nat.mod_lt _ hd0) (by omega) (by omega) (by omega)) ?_
      rw [rem_fin (by omega)]
theorem z_rem {p q : Int} {N : Nat} (hp : isP p) (hq : isP q) (h0 : ¬ pMag q = 0) (hN : 20 ≤ N) : f_X1_remainder N (Int32.ofInt p) (Int32.ofInt q) = some (Int32.ofInt (pRem p q)) := by
  have hmp := pMag_lt hp
  have hmq := pMag_lt hq
  have hs0 := mSig_0 h0
  have hs := mSig_lt (pMag q)
  have hsp := mSig_lt (pMag p)
  have hep := mExp_le hmp
  have heq := mExp_le hmq
  have hxp := mExp_pos (pMag p)
  have hxq := mExp_pos (pMag q)
  have hp' := hp
  have hq' := hq
  unfold isP at hp' hq'
  unfold f_X1_remainder
  rw [z_mag (by omega) (by omega), o_b1_some, z_mag (by omega) (by omega), o_b1_some, z_sig (by omega), o_b1_some, nI_l (by omega)]
  have i1 : (nI (pMag p) < nI (pMag q)) ↔ pMag p < pMag q := nI_ltI (by omega) (by omega)
  by_cases g : pMag p < pMag q
  · rw [if_pos (i1.mpr g)]
    unfold pRem
    rw [Nat.mod_eq_of_lt (mVal_strict hmq g), q_rnd_exact hmp, pOf_mag]
  · have hm := mExp_mono (show pMag q ≤ pMag p by omega)
    rw [if_neg (fun x => g (i1.mp x)), if_neg (fun x => by
      have := (lg_cmp_eq0 (by omega)).mp x
      omega), z_sig (by omega), o_b1_some, decide_eq_true (show ¬ lN (mSig (pMag q)) = 0 from fun x => by
        have := (pk_lEQ (a := mSig (pMag q)) (b := 0) (by omega) (by decide)).mp x
        omega), o_ck_true]
    simp only [o_nm]
    rw [nI_l (by omega), pk_lRem (by omega) hs0 (by omega), z_exp (by omega), o_b1_some, z_exp (by omega), o_b1_some, pk_sub hm, iI_nI (mExp (pMag p) - mExp (pMag q))]
    obtain ⟨F, rfl⟩ : ∃ F, N = F + 1 := ⟨N - 1, by omega⟩
    rw [z_rem52 hp hmq hs0 hs F _ _ (Nat.mod_lt _ hs0) (by omega) (by omega) (by omega), rem_mul]
    refine congrArg some (congrArg Int32.ofInt ?_)
    unfold pRem mVal
    have e1 : mSig (pMag p) * 2 ^ (mExp (pMag p) - 1) = mSig (pMag p) * 2 ^ (mExp (pMag p) - mExp (pMag q)) * 2 ^ (mExp (pMag q) - 1) := by
      rw [Nat.mul_assoc, ← Nat.pow_add, show mExp (pMag p) - mExp (pMag q) + (mExp (pMag q) - 1) = mExp (pMag p) - 1 by omega]
    rw [e1, Nat.mul_mod_mul_right, q_rnd_scale, show ((mExp (pMag p) - mExp (pMag q) : Nat) : Int).toNat = mExp (pMag p) - mExp (pMag q) by omega, show (1 : Int) + ((mExp (pMag q) - 1 : Nat) : Int) = (mExp (pMag q) : Int) by omega]
/-! the machine's -/
theorem y_frem {p q : Int} (hp : isP p) (hq : isP q) (h0 : ¬ pMag q = 0) : FP.frem (uB (decide (p < 0)) (pMag p)) (uB (decide (q < 0)) (pMag q)) = uB (decide (p < 0)) (q_rnd (mVal (pMag p) % mVal (pMag q)) 1) := by
  have hmp := pMag_lt hp
  have hmq := pMag_lt hq
  have hs0 := mSig_0 h0
  have hxp := mExp_pos (pMag p)
  have hxq := mExp_pos (pMag q)
  show UInt32.ofNat (FP.Core.encode FP.Core.b32 (FP.Core.round FP.Core.b32 (FP.Core.exactRemainder (FP.Core.decode FP.Core.b32 (uB (decide (p < 0)) (pMag p)).toNat) (FP.Core.decode FP.Core.b32 (uB (decide (q < 0)) (pMag q)).toNat)))) = _
  rw [uB_nat (by omega), uB_nat (by omega), dec32 hmp, dec32 hmq]
  unfold FP.Core.exactRemainder
  dsimp only
  rw [if_neg (show ¬ mSig (pMag q) = 0 by omega)]
  generalize hE : min (mExp (pMag p)) (mExp (pMag q)) = E
  have hE1 : min ((mExp (pMag p) : Int) - 150) ((mExp (pMag q) : Int) - 150) = (E : Int) - 150 := by omega
  rw [hE1]
  show UInt32.ofNat (FP.Core.encode FP.Core.b32 (FP.Core.roundRatio FP.Core.b32 (decide (p < 0)) (mSig (pMag p) * 2 ^ ((mExp (pMag p) : Int) - 150 - ((E : Int) - 150)).toNat % (mSig (pMag q) * 2 ^ ((mExp (pMag q) : Int) - 150 - ((E : Int) - 150)).toNat)) 1 ((E : Int) - 150))) = _
  rw [q_encode]
  have e1 : mVal (pMag p) = mSig (pMag p) * 2 ^ ((mExp (pMag p) : Int) - 150 - ((E : Int) - 150)).toNat * 2 ^ (E - 1) := by
    unfold mVal
    rw [Nat.mul_assoc, ← Nat.pow_add, show ((mExp (pMag p) : Int) - 150 - ((E : Int) - 150)).toNat + (E - 1) = mExp (pMag p) - 1 by omega]
  have e2 : mVal (pMag q) = mSig (pMag q) * 2 ^ ((mExp (pMag q) : Int) - 150 - ((E : Int) - 150)).toNat * 2 ^ (E - 1) := by
    unfold mVal
    rw [Nat.mul_assoc, ← Nat.pow_add, show ((mExp (pMag q) : Int) - 150 - ((E : Int) - 150)).toNat + (E - 1) = mExp (pMag q) - 1 by omega]
  rw [e1, e2, Nat.mul_mod_mul_right, q_rnd_scale, show (1 : Int) + ((E - 1 : Nat) : Int) = (E : Int) by omega]
  rfl
theorem y_fremN {p q : Int} (hp : isP p) (hq : isP q) (h0 : pMag q = 0) : isNaN32 (FP.frem (uB (decide (p < 0)) (pMag p)) (uB (decide (q < 0)) (pMag q))) = true := by
  have hmp := pMag_lt hp
  have hmq := pMag_lt hq
  have e : FP.frem (uB (decide (p < 0)) (pMag p)) (uB (decide (q < 0)) (pMag q)) = UInt32.ofNat (FP.Core.encode FP.Core.b32 .nan) := by
    show UInt32.ofNat (FP.Core.encode FP.Core.b32 (FP.Core.round FP.Core.b32 (FP.Core.exactRemainder (FP.Core.decode FP.Core.b32 (uB (decide (p < 0)) (pMag p)).toNat) (FP.Core.decode FP.Core.b32 (uB (decide (q < 0)) (pMag q)).toNat)))) = _
    rw [uB_nat (by omega), uB_nat (by omega), dec32 hmp, dec32 hmq]
    unfold FP.Core.exactRemainder
    dsimp only
    rw [if_pos (show mSig (pMag q) = 0 by rw [h0]; rfl)]
    rfl
  rw [e]
  decide +kernel
theorem uB_num {s : Bool} {m : Nat} (h : m ≤ 2139095040) : ¬ isNaN32 (uB s m) = true := fun x => by
  unfold isNaN32 at x
  have := of_decide_eq_true x
  exact absurd (uB_ok (s := s) h) (UInt32.not_le.mpr this)
/-! the reference's two calls that may draw, as programs -/
def f_X8_rest_B14 (v_refused : Nat → Int32) : Option (Int32 × (Nat → Int32)) :=
  o_b2 (f_X8_refuses v_refused (-2139095050)) (fun (r : Int32) (w : Nat → Int32) => some (r, w))
def f_X8_rest (v_refused : Nat → Int32) (x1 : Int32) (x2 : Int32) : Option (Int32 × (Nat → Int32)) :=
  o_b1 (f_X8_isPlace x1) (fun (r1 : Int32) =>
  if r1 = 0 then
    f_X8_rest_B14 v_refused
  else
    o_b1 (f_X8_isPlace x2) (fun (r8 : Int32) =>
    if r8 = 0 then
      f_X8_rest_B14 v_refused
    else
      o_b1 (f_X8_number x1) (fun (r22 : UInt32) =>
      o_b1 (f_X8_number x2) (fun (r26 : UInt32) =>
      if isNaN32 (FP.frem r22 r26) = true then
        o_b2 (f_X8_refuses v_refused (-2139095051)) (fun (r : Int32) (w : Nat → Int32) => some (r, w))
      else
        o_b1 (f_X8_place (FP.frem r22 r26)) (fun (r : Int32) => some (r, v_refused))))))
def f_X8_narrow (v_refused : Nat → Int32) (x1 : Int64) : Option (Int32 × (Nat → Int32)) :=
  if isNaN64 x1.toUInt64 = true then
    o_b2 (f_X8_refuses v_refused (-2139095050)) (fun (r : Int32) (w : Nat → Int32) => some (r, w))
  else
    o_ck (decide (FP.d2f x1.toUInt64 &&& 0x7fffffff ≤ 0x7f800000)) (
    o_b1 (f_X8_place (FP.d2f x1.toUInt64)) (fun (r20 : Int32) =>
    o_b1 (f_X8_isPlace r20) (fun (r27 : Int32) =>
    if r27 = 0 then
      o_b2 (f_X8_refuses v_refused (-2139095051)) (fun (r : Int32) (w : Nat → Int32) => some (r, w))
    else
      some (r20, v_refused))))
theorem y_isnan {n : Nat} (hn : n < 2 ^ 64) : isNaN64 (lN n).toUInt64 = true ↔ (dE n = 2047 ∧ ¬ dT n = 0) := by
  have hN : (lN n).toUInt64.toNat = n := by
    show (BitVec.ofNat 64 n).toNat = n
    rw [BitVec.toNat_ofNat, Nat.mod_eq_of_lt hn]
  rw [isNaN64_iff, hN, show (0x7fffffffffffffff : Nat) = 2 ^ 63 - 1 from rfl, Nat.and_two_pow_sub_one_eq_mod]
  unfold dE dT
  omega
theorem lN_u64 (n : Nat) : (lN n).toUInt64 = UInt64.ofNat n := rfl
section calls
variable {N : Nat} {nu nr : Int32} {nl nh nk nx ny nz : Nat → Int32} {hc hn : Int32} {hr : Nat → g_MV} {sv st sf sb : Int32} {sp : Nat → Int32} {tl : Int32} {tb rf : Nat → Int32} {all past : Nat → Int32} {ss : Int32} {rr rt : Nat → Int32} {rl : Int32}
theorem L_rest (hN : 600 ≤ N) (hRel : Rel N nu nr nl nh nk nx ny nz hc hn hr sv st sf sb sp tl tb rf all past ss rr rt rl) (x1 x2 : Int32) : ∃ r o_rf o_rr, f_X7_rest N rf x1 x2 = some (r, o_rf) ∧ f_X8_rest rr x1 x2 = some (r, o_rr) ∧ Rel N nu nr nl nh nk nx ny nz hc hn hr sv st sf sb sp tl tb o_rf all past ss o_rr rt rl := by
  obtain ⟨S, h, Hs, tn, hS, hC, hR, hH, hcc, hrr, hs, hrf, htn, htl, hrl, hrt, htb⟩ := hRel
  subst hrf
  unfold f_X7_rest f_X8_rest f_X7_rest_B14 f_X8_rest_B14
  simp only [z_isPlace, y_isPlace, o_b1_some, ref_same, ref_bad, o_b2_some]
  by_cases g1 : -2139095040 ≤ x1.toInt ∧ x1.toInt ≤ 2139095039
  · rw [decide_eq_true g1, if_neg bI_t, if_neg bI_t]
    by_cases g2 : -2139095040 ≤ x2.toInt ∧ x2.toInt ≤ 2139095039
    · rw [decide_eq_true g2, if_neg bI_t, if_neg bI_t]
      have s1 := y_number (p := x1.toInt) g1
      have s2 := y_number (p := x2.toInt) g2
      have s3 := z_mag (p := x2.toInt) (by omega) (by omega)
      rw [← Int32_of] at s1 s2 s3
      have hm := pMag_lt (p := x2.toInt) g2
      rw [s1, o_b1_some, s2, o_b1_some, s3, o_b1_some]
      by_cases g3 : pMag x2.toInt = 0
      · rw [if_pos (show nI (pMag x2.toInt) = 0 by rw [g3]; rfl), if_pos (y_fremN g1 g2 g3), ref_no, o_b2_some]
        exact ⟨_, _, _, rfl, rfl, S, h, Hs, tn, hS, hC, hR, hH, hcc, hrr, hs, rfl, htn, htl, hrl, hrt, htb⟩
      · have s4 := z_rem (N := N) g1 g2 g3 (by omega)
        rw [← Int32_of, ← Int32_of] at s4
        rw [if_neg (nI_ne0 (by omega) (by omega)), s4, o_b1_some, y_frem g1 g2 g3, if_neg (uB_num (q_rnd_le _ _)), y_place (q_rnd_le _ _), o_b1_some]
        refine ⟨_, _, _, rfl, ?_, S, h, Hs, tn, hS, hC, hR, hH, hcc, hrr, hs, rfl, htn, htl, hrl, hrt, htb⟩
        rw [pOf_t (n2 := x1.toInt < 0) _ decide_eq_true_iff]
        rfl
    · rw [decide_eq_false g2, if_pos bI_f, if_pos bI_f]
      exact ⟨_, _, _, rfl, rfl, S, h, Hs, tn, hS, hC, hR, hH, hcc, hrr, hs, rfl, htn, htl, hrl, hrt, htb⟩
  · rw [decide_eq_false g1, if_pos bI_f, if_pos bI_f]
    exact ⟨_, _, _, rfl, rfl, S, h, Hs, tn, hS, hC, hR, hH, hcc, hrr, hs, rfl, htn, htl, hrl, hrt, htb⟩
theorem L_narrow (hRel : Rel N nu nr nl nh nk nx ny nz hc hn hr sv st sf sb sp tl tb rf all past ss rr rt rl) (x1 : Int64) : ∃ r o_rf o_rr, f_X7_narrow rf x1 = some (r, o_rf) ∧ f_X8_narrow rr x1 = some (r, o_rr) ∧ Rel N nu nr nl nh nk nx ny nz hc hn hr sv st sf sb sp tl tb o_rf all past ss o_rr rt rl := by
  obtain ⟨S, h, Hs, tn, hS, hC, hR, hH, hcc, hrr, hs, hrf, htn, htl, hrl, hrt, htb⟩ := hRel
  subst hrf
  obtain ⟨n, hn64, rfl⟩ := wb_of x1
  unfold f_X7_narrow f_X8_narrow
  rw [z_nan hn64, o_b1_some]
  by_cases g : dE n = 2047 ∧ ¬ dT n = 0
  · rw [decide_eq_true g, if_neg bI_t, if_pos ((y_isnan hn64).mpr g), ref_same, ref_bad, o_b2_some]
    exact ⟨_, _, _, rfl, rfl, S, h, Hs, tn, hS, hC, hR, hH, hcc, hrr, hs, rfl, htn, htl, hrl, hrt, htb⟩
  · obtain ⟨m, m1, m2, m3⟩ := y_d2f hn64 g
    rw [decide_eq_false g, if_pos bI_f, if_neg (fun q => g ((y_isnan hn64).mp q)), z_ofDouble hn64, o_b1_some, lN_u64, m2, decide_eq_true (uB_ok m1), o_ck_true, y_place m1, pOf_t (n2 := 9223372036854775808 ≤ n) _ decide_eq_true_iff, m3, o_b1_some, z_isPlace, o_b1_some, y_isPlace, o_b1_some, ref_same, ref_no, o_b2_some]
    try rw [o_b2_some]
    by_cases g2 : -2139095040 ≤ (Int32.ofInt (nrw n)).toInt ∧ (Int32.ofInt (nrw n)).toInt ≤ 2139095039
    · rw [decide_eq_true g2, if_neg bI_t]
      exact ⟨_, _, _, rfl, rfl, S, h, Hs, tn, hS, hC, hR, hH, hcc, hrr, hs, rfl, htn, htl, hrl, hrt, htb⟩
    · rw [decide_eq_false g2, if_pos bI_f]
      exact ⟨_, _, _, rfl, rfl, S, h, Hs, tn, hS, hC, hR, hH, hcc, hrr, hs, rfl, htn, htl, hrl, hrt, htb⟩
end calls
