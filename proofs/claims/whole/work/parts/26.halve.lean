/-! ===== searches by halving ===== -/
theorem lc_cases (x y : Int64) : (lg_cmp x y = 1 ∧ y.toInt < x.toInt) ∨ (lg_cmp x y = 0 ∧ x.toInt = y.toInt) ∨ (lg_cmp x y = -1 ∧ x.toInt < y.toInt) := by
  unfold lg_cmp
  by_cases h1 : x > y
  · rw [if_pos h1]
    exact Or.inl ⟨rfl, Int64.lt_iff_toInt_lt.mp h1⟩
  · rw [if_neg h1]
    by_cases h2 : x = y
    · rw [if_pos h2]
      exact Or.inr (Or.inl ⟨rfl, by rw [h2]⟩)
    · rw [if_neg h2]
      refine Or.inr (Or.inr ⟨rfl, ?_⟩)
      have a : ¬ y.toInt < x.toInt := fun q => h1 (Int64.lt_iff_toInt_lt.mpr q)
      have b : ¬ x.toInt = y.toInt := fun q => h2 (Int64.toInt_inj.mp q)
      omega
theorem lc_le {x y : Int64} : lg_cmp x y ≤ 0 ↔ x.toInt ≤ y.toInt := by
  rcases lc_cases x y with ⟨h, k⟩ | ⟨h, k⟩ | ⟨h, k⟩ <;> rw [h]
  · exact ⟨fun q => absurd q (by decide), fun q => by omega⟩
  · exact ⟨fun _ => by omega, fun _ => by decide⟩
  · exact ⟨fun _ => by omega, fun _ => by decide⟩
theorem lc_lt {x y : Int64} : lg_cmp x y < 0 ↔ x.toInt < y.toInt := by
  rcases lc_cases x y with ⟨h, k⟩ | ⟨h, k⟩ | ⟨h, k⟩ <;> rw [h]
  · exact ⟨fun q => absurd q (by decide), fun q => by omega⟩
  · exact ⟨fun q => absurd q (by decide), fun _ => by omega⟩
  · exact ⟨fun _ => by omega, fun _ => by decide⟩
theorem lc_ge {x y : Int64} : 0 ≤ lg_cmp x y ↔ y.toInt ≤ x.toInt := by
  rcases lc_cases x y with ⟨h, k⟩ | ⟨h, k⟩ | ⟨h, k⟩ <;> rw [h]
  · exact ⟨fun _ => by omega, fun _ => by decide⟩
  · exact ⟨fun _ => by omega, fun _ => by decide⟩
  · exact ⟨fun q => absurd q (by decide), fun q => by omega⟩
theorem lc_gt {x y : Int64} : 0 < lg_cmp x y ↔ y.toInt < x.toInt := by
  rcases lc_cases x y with ⟨h, k⟩ | ⟨h, k⟩ | ⟨h, k⟩ <;> rw [h]
  · exact ⟨fun _ => by omega, fun _ => by decide⟩
  · exact ⟨fun q => absurd q (by decide), fun q => by omega⟩
  · exact ⟨fun q => absurd q (by decide), fun q => by omega⟩
theorem lc_eq {x y : Int64} : lg_cmp x y = 0 ↔ x.toInt = y.toInt := by
  rcases lc_cases x y with ⟨h, k⟩ | ⟨h, k⟩ | ⟨h, k⟩ <;> rw [h]
  · exact ⟨fun q => absurd q (by decide), fun q => by omega⟩
  · exact ⟨fun _ => by omega, fun _ => by decide⟩
  · exact ⟨fun q => absurd q (by decide), fun q => by omega⟩
theorem jI_T {a : Int} (h1 : -9223372036854775808 ≤ a) (h2 : a < 9223372036854775808) : (Int64.ofInt a).toInt = a := Int64.toInt_ofInt_of_le h1 h2
theorem iI_64 {a : Int} (h1 : -2147483648 ≤ a) (h2 : a < 2147483648) : (Int32.ofInt a).toInt64 = Int64.ofInt a := by
  rw [← Int64.toInt_inj, Int32.toInt_toInt64, iI_T h1 h2, jI_T (by omega) (by omega)]
theorem jI_32 (a : Int) : (Int64.ofInt a).toInt32 = Int32.ofInt a := Int64.toInt32_ofInt
theorem jI_half {v : Int} (h1 : -4611686018427387904 ≤ v) (h2 : v < 4611686018427387904) : Int64.ofInt v >>> ((1 : Int32).toInt64 &&& 63) = Int64.ofInt (v / 2) := by
  have hD : (((1 : Int32).toInt64 &&& 63).toBitVec.smod 64).toNat = 1 := by decide
  apply Int64.toInt_inj.mp
  have e : (Int64.ofInt v >>> ((1 : Int32).toInt64 &&& 63)).toInt = (Int64.ofInt v).toInt >>> 1 := by
    rw [← hD]
    exact BitVec.toInt_sshiftRight ..
  rw [e, Int.shiftRight_eq_div_pow, jI_T (by omega) (by omega), jI_T (by omega) (by omega)]
  rfl
theorem z_mid {a b : Int} (h1 : -2147483648 ≤ a) (h2 : a < 2147483648) (h3 : -2147483648 ≤ b) (h4 : b < 2147483648) : f_X4_middle (Int32.ofInt a) (Int32.ofInt b) = some (Int32.ofInt ((a + b) / 2)) := by
  unfold f_X4_middle
  rw [iI_64 h1 h2, iI_64 h3 h4, ← Int64.ofInt_add, jI_half (by omega) (by omega), jI_32]
theorem z_gap {a b : Int} (h1 : -2147483648 ≤ a) (h2 : a < 2147483648) (h3 : -2147483648 ≤ b) (h4 : b < 2147483648) : (lg_cmp ((Int32.ofInt b).toInt64 - (Int32.ofInt a).toInt64) 1 ≤ 0) ↔ b - a ≤ 1 := by
  rw [lc_le, iI_64 h1 h2, iI_64 h3 h4, ← Int64.ofInt_sub, jI_T (by omega) (by omega)]
  exact Iff.rfl
theorem isP_mid {a b m : Int} (ha : isP a) (hb : isP b) (h1 : a ≤ m) (h2 : m ≤ b) : isP m := by
  unfold isP at *
  omega
/-- the first of a range, rising: r is where it begins to hold, or one behind the range -/
def isFirst (P : Int → Prop) (lo hi r : Int) : Prop := lo ≤ r ∧ r ≤ hi + 1 ∧ (∀ p, lo ≤ p → p < r → ¬ P p) ∧ (∀ p, r ≤ p → p ≤ hi → P p)
theorem isFirst_one {P : Int → Prop} {lo hi r r' : Int} (h : isFirst P lo hi r) (h' : isFirst P lo hi r') : r = r' := by
  obtain ⟨a1, a2, a3, a4⟩ := h
  obtain ⟨b1, b2, b3, b4⟩ := h'
  rcases (show r < r' ∨ r' ≤ r by omega) with q | q
  · exact absurd (a4 r (by omega) (by omega)) (b3 r a1 q)
  · rcases (show r' < r ∨ r ≤ r' by omega) with q2 | q2
    · exact absurd (b4 r' (by omega) (by omega)) (a3 r' b1 q2)
    · omega
theorem p33 (k : Nat) : (2 : Int) ^ (k + 1) = 2 * 2 ^ k := by
  rw [Int.pow_succ, Int.mul_comm]
theorem z_firstSumL {vl vh : Nat → Int32} {N : Nat} {o goal : Int} (ho : isP o) (hg1 : -2147483000 ≤ goal) (hg2 : goal ≤ 2147483000) : ∀ (k n : Nat) (a b : Int) (st : Nat), isP a → isP b → a < b → ¬ goal ≤ pSum a o → goal ≤ pSum b o → b - a ≤ 2 ^ k → st + k ≤ 33 → k < n →
    ∃ r, f_X0_firstSum_L47 N vl vh n (Int32.ofInt o) (Int32.ofInt goal) (Int32.ofInt a) (Int32.ofInt b) (nI st) = some (Int32.ofInt r) ∧ a < r ∧ r ≤ b ∧ goal ≤ pSum r o ∧ ¬ goal ≤ pSum (r - 1) o := by
  intro k
  induction k with
  | zero =>
    intro n a b st ha hb hab hna hpb hw hst hn
    have hb1 : b = a + 1 := by
      have : (2 : Int) ^ 0 = 1 := rfl
      omega
    obtain ⟨n', rfl⟩ : ∃ n', n = n' + 1 := ⟨n - 1, by omega⟩
    have ha' := ha
    have hb' := hb
    unfold isP at ha' hb'
    refine ⟨b, ?_, hab, by omega, hpb, by rw [hb1]; simpa using hna⟩
    show f_X0_firstSum_C47 N vl vh _ _ _ _ _ _ = _
    unfold f_X0_firstSum_C47
    have h34 : ¬ (34 : Int32) ≤ nI st := fun q => by
      have := (nI_leI (a := 34) (by decide) (by omega)).mp q
      omega
    rw [if_neg h34, if_pos ((z_gap (by omega) (by omega) (by omega) (by omega)).mpr (by omega))]
  | succ k ih =>
    intro n a b st ha hb hab hna hpb hw hst hn
    obtain ⟨n', rfl⟩ : ∃ n', n = n' + 1 := ⟨n - 1, by omega⟩
    have ha' := ha
    have hb' := hb
    unfold isP at ha' hb'
    have hgap := z_gap (a := a) (b := b) (by omega) (by omega) (by omega) (by omega)
    have h34 : ¬ (34 : Int32) ≤ nI st := fun q => by
      have := (nI_leI (a := 34) (by decide) (by omega)).mp q
      omega
    show ∃ r, f_X0_firstSum_C47 N vl vh _ _ _ _ _ _ = _ ∧ _
    unfold f_X0_firstSum_C47
    rw [if_neg h34]
    by_cases h1 : b - a ≤ 1
    · rw [if_pos (hgap.mpr h1)]
      have hb1 : b = a + 1 := by omega
      exact ⟨b, rfl, hab, by omega, hpb, by rw [hb1]; simpa using hna⟩
    · rw [if_neg (fun q => h1 (hgap.mp q)), z_mid (by omega) (by omega) (by omega) (by omega)]
      have hm1 : a < (a + b) / 2 := by omega
      have hm2 : (a + b) / 2 < b := by omega
      have hmP : isP ((a + b) / 2) := isP_mid ha hb (by omega) (by omega)
      rw [p33] at hw
      simp only [o_b1]
      rw [z_sum hmP ho]
      simp only [f_X0_firstSum_B96]
      have hsb := pSum_in ((a + b) / 2) o
      have hiff : (Int32.ofInt (pSum ((a + b) / 2) o) < Int32.ofInt goal) ↔ pSum ((a + b) / 2) o < goal := iI_lt (by omega) (by omega) (by omega) (by omega)
      have hst1 : nI st + 1 = nI (st + 1) := nI_1 st
      by_cases hc : pSum ((a + b) / 2) o < goal
      · rw [if_pos (hiff.mpr hc), hst1]
        obtain ⟨r, e, r1, r2, r3, r4⟩ := ih n' ((a + b) / 2) b (st + 1) hmP hb hm2 (by omega) hpb (by omega) (by omega) (by omega)
        exact ⟨r, e, by omega, r2, r3, r4⟩
      · rw [if_neg (fun q => hc (hiff.mp q)), hst1]
        obtain ⟨r, e, r1, r2, r3, r4⟩ := ih n' a ((a + b) / 2) (st + 1) ha hmP hm1 hna (by omega) (by omega) (by omega) (by omega)
        exact ⟨r, e, r1, by omega, r3, r4⟩
/-- 'firstSum': the first place of the range whose sum is the goal or more -/
theorem z_firstSum {vl vh : Nat → Int32} {N : Nat} {u : Nat} {o goal lo hi : Int} (hN : 40 ≤ N) (hu : u < 6) (hlo : vl u = Int32.ofInt lo) (hhi : vh u = Int32.ofInt hi) (hl : isP lo) (hh : isP hi) (hle : lo ≤ hi) (ho : isP o) (hg1 : -2147483000 ≤ goal) (hg2 : goal ≤ 2147483000) :
    ∃ r, f_X0_firstSum N vl vh (nI u) (Int32.ofInt o) (Int32.ofInt goal) = some (Int32.ofInt r) ∧ isFirst (fun p => goal ≤ pSum p o) lo hi r := by
  have hin : ¬ (nI u < 0 ∨ 6 ≤ (nI u).toNatClampNeg) := vp_in_nI hu (by decide)
  have hcl : (nI u).toNatClampNeg = u := nI_clamp (by omega)
  have hl' := hl
  have hh' := hh
  unfold isP at hl' hh'
  unfold f_X0_firstSum o_in
  rw [if_neg hin]
  simp only [o_nm]
  rw [if_neg hin, hcl, hlo, hhi, z_sum hl ho]
  simp only [o_b1]
  have hs1 := pSum_in lo o
  have hs2 := pSum_in hi o
  have i1 : (Int32.ofInt (pSum lo o) < Int32.ofInt goal) ↔ pSum lo o < goal := iI_lt (by omega) (by omega) (by omega) (by omega)
  by_cases h1 : pSum lo o < goal
  · rw [if_pos (i1.mpr h1), z_sum hh ho]
    simp only []
    have i2 : (Int32.ofInt goal ≤ Int32.ofInt (pSum hi o)) ↔ goal ≤ pSum hi o := iI_le (by omega) (by omega) (by omega) (by omega)
    by_cases h2 : goal ≤ pSum hi o
    · rw [if_pos (i2.mpr h2)]
      have hlt : lo < hi := by
        rcases (show lo < hi ∨ hi ≤ lo by omega) with q | q
        · exact q
        · have : lo = hi := by omega
          rw [this] at h1
          omega
      obtain ⟨r, e, r1, r2, r3, r4⟩ := z_firstSumL (vl := vl) (vh := vh) (N := N) ho hg1 hg2 32 N lo hi 0 hl hh hlt (by omega) h2 (by
        have : (2 : Int) ^ 32 = 4294967296 := by decide
        omega) (by decide) (by omega)
      refine ⟨r, e, by omega, by omega, fun p p1 p2 q => ?_, fun p p1 p2 => ?_⟩
      · have := pSum_mono o (show p ≤ r - 1 by omega)
        omega
      · have := pSum_mono o p1
        omega
    · rw [if_neg (fun q => h2 (i2.mp q))]
      refine ⟨hi + 1, by rw [Int32.ofInt_add]; rfl, by omega, by omega, fun p p1 p2 q => ?_, fun p p1 p2 => by omega⟩
      have := pSum_mono o (show p ≤ hi by omega)
      omega
  · rw [if_neg (fun q => h1 (i1.mp q))]
    refine ⟨lo, rfl, by omega, by omega, fun p p1 p2 => by omega, fun p p1 p2 => ?_⟩
    have := pSum_mono o p1
    omega
