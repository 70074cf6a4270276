/-! ===== the class's own reckoning: what it comes to ===== -/
theorem iI_nI (k : Nat) : nI k = Int32.ofInt (k : Int) := Int32.ofInt_eq_ofNat.symm
theorem iI_T {a : Int} (h1 : -2147483648 ≤ a) (h2 : a < 2147483648) : (Int32.ofInt a).toInt = a := Int32.toInt_ofInt_of_le h1 h2
theorem iI_lt {a b : Int} (h1 : -2147483648 ≤ a) (h2 : a < 2147483648) (h3 : -2147483648 ≤ b) (h4 : b < 2147483648) : Int32.ofInt a < Int32.ofInt b ↔ a < b := by
  rw [Int32.lt_iff_toInt_lt, iI_T h1 h2, iI_T h3 h4]
theorem iI_le {a b : Int} (h1 : -2147483648 ≤ a) (h2 : a < 2147483648) (h3 : -2147483648 ≤ b) (h4 : b < 2147483648) : Int32.ofInt a ≤ Int32.ofInt b ↔ a ≤ b := by
  rw [Int32.le_iff_toInt_le, iI_T h1 h2, iI_T h3 h4]
theorem iI_eq {a b : Int} (h1 : -2147483648 ≤ a) (h2 : a < 2147483648) (h3 : -2147483648 ≤ b) (h4 : b < 2147483648) : Int32.ofInt a = Int32.ofInt b ↔ a = b := by
  rw [← Int32.toInt_inj, iI_T h1 h2, iI_T h3 h4]
theorem iI_in (x : Int32) : -2147483648 ≤ x.toInt ∧ x.toInt < 2147483648 := ⟨by have := x.le_toInt; omega, by have := x.toInt_lt; omega⟩
theorem nI_log2_div {n k : Nat} (h : 2 ^ k ≤ n) : (n / 2 ^ k).log2 = n.log2 - k := by
  have hp := Nat.two_pow_pos k
  have hn : n ≠ 0 := by omega
  have a := Nat.log2_self_le hn
  have b := Nat.lt_log2_self (n := n)
  have hk : k ≤ n.log2 := (Nat.le_log2 hn).mpr h
  refine q_log2 ?_ ?_
  · rw [Nat.le_div_iff_mul_le hp, ← Nat.pow_add, Nat.sub_add_cancel hk]
    exact a
  · rw [Nat.div_lt_iff_lt_mul hp, ← Nat.pow_add]
    have : n.log2 - k + 1 + k = n.log2 + 1 := by omega
    rw [this]
    exact b
theorem nI_subc {v k : Nat} (h : k ≤ v) : nI v + (-(nI k)) = nI (v - k) := by
  rw [← pk_sub h, Int32.sub_eq_add_neg]
theorem z_B73 {n v : Nat} (h0 : 0 < n) (h : n < 4) (hv : n.log2 ≤ v) : f_J6_numberOfLeadingZeros_0f7a4_B73 (nI n) (nI v) = some (nI (v - n.log2)) := by
  unfold f_J6_numberOfLeadingZeros_0f7a4_B73
  rw [pk_ushrN (by omega) 1 1 (by decide)]
  have hl : n / 2 ^ 1 = n.log2 := by
    rcases (show n = 1 ∨ n = 2 ∨ n = 3 by omega) with rfl | rfl | rfl <;> decide
  rw [hl, pk_sub hv]
theorem z_B61 {n v : Nat} (h0 : 0 < n) (h : n < 16) (hv : n.log2 ≤ v) : f_J6_numberOfLeadingZeros_0f7a4_B61 (nI n) (nI v) = some (nI (v - n.log2)) := by
  unfold f_J6_numberOfLeadingZeros_0f7a4_B61
  by_cases h4 : n < 4
  · rw [if_pos (show nI n < (4 : Int32) from (nI_ltI (by omega) (by omega : 4 < 2 ^ 31)).mpr h4)]
    exact z_B73 h0 h4 hv
  · rw [if_neg (show ¬ nI n < (4 : Int32) from fun q => h4 ((nI_ltI (by omega) (by omega : 4 < 2 ^ 31)).mp q)), pk_ushrN (by omega) 2 2 (by decide)]
    have hk : 2 ≤ n.log2 := (Nat.le_log2 (by omega)).mpr (by omega)
    have hl := nI_log2_div (n := n) (k := 2) (by omega)
    have hs : nI v + (-2) = nI (v - 2) := nI_subc (k := 2) (by omega)
    show f_J6_numberOfLeadingZeros_0f7a4_B73 (nI (n / 2 ^ 2)) (nI v + (-2)) = _
    rw [hs, z_B73 (by omega) (by omega) (by omega), hl]
    congr 2
    omega
theorem z_B48 {n v : Nat} (h0 : 0 < n) (h : n < 256) (hv : n.log2 ≤ v) : f_J6_numberOfLeadingZeros_0f7a4_B48 (nI n) (nI v) = some (nI (v - n.log2)) := by
  unfold f_J6_numberOfLeadingZeros_0f7a4_B48
  by_cases h4 : n < 16
  · rw [if_pos (show nI n < (16 : Int32) from (nI_ltI (by omega) (by omega : 16 < 2 ^ 31)).mpr h4)]
    exact z_B61 h0 h4 hv
  · rw [if_neg (show ¬ nI n < (16 : Int32) from fun q => h4 ((nI_ltI (by omega) (by omega : 16 < 2 ^ 31)).mp q)), pk_ushrN (by omega) 4 4 (by decide)]
    have hk : 4 ≤ n.log2 := (Nat.le_log2 (by omega)).mpr (by omega)
    have hl := nI_log2_div (n := n) (k := 4) (by omega)
    have hs : nI v + (-4) = nI (v - 4) := nI_subc (k := 4) (by omega)
    show f_J6_numberOfLeadingZeros_0f7a4_B61 (nI (n / 2 ^ 4)) (nI v + (-4)) = _
    rw [hs, z_B61 (by omega) (by omega) (by omega), hl]
    congr 2
    omega
theorem z_B33 {n v : Nat} (h0 : 0 < n) (h : n < 65536) (hv : n.log2 ≤ v) : f_J6_numberOfLeadingZeros_0f7a4_B33 (nI n) (nI v) = some (nI (v - n.log2)) := by
  unfold f_J6_numberOfLeadingZeros_0f7a4_B33
  by_cases h4 : n < 256
  · rw [if_pos (show nI n < (256 : Int32) from (nI_ltI (by omega) (by omega : 256 < 2 ^ 31)).mpr h4)]
    exact z_B48 h0 h4 hv
  · rw [if_neg (show ¬ nI n < (256 : Int32) from fun q => h4 ((nI_ltI (by omega) (by omega : 256 < 2 ^ 31)).mp q)), pk_ushrN (by omega) 8 8 (by decide)]
    have hk : 8 ≤ n.log2 := (Nat.le_log2 (by omega)).mpr (by omega)
    have hl := nI_log2_div (n := n) (k := 8) (by omega)
    have hs : nI v + (-8) = nI (v - 8) := nI_subc (k := 8) (by omega)
    show f_J6_numberOfLeadingZeros_0f7a4_B48 (nI (n / 2 ^ 8)) (nI v + (-8)) = _
    rw [hs, z_B48 (by omega) (by omega) (by omega), hl]
    congr 2
    omega
theorem z_int {n : Nat} (h0 : 0 < n) (h : n < 4294967296) : f_J6_numberOfLeadingZeros_0f7a4 (nI n) = some (nI (31 - n.log2)) := by
  unfold f_J6_numberOfLeadingZeros_0f7a4
  by_cases h31 : n < 2147483648
  · have hL : n.log2 ≤ 30 := by
      have := (Nat.log2_lt (by omega : n ≠ 0)).mpr (show n < 2 ^ 31 by omega)
      omega
    rw [if_pos (show (0 : Int32) < nI n from (nI_ltI (by decide : 0 < 2 ^ 31) (by omega)).mpr h0)]
    by_cases h4 : n < 65536
    · rw [if_pos (show nI n < (65536 : Int32) from (nI_ltI (by omega) (by omega : 65536 < 2 ^ 31)).mpr h4)]
      exact z_B33 (v := 31) h0 h4 (by omega)
    · rw [if_neg (show ¬ nI n < (65536 : Int32) from fun q => h4 ((nI_ltI (by omega) (by omega : 65536 < 2 ^ 31)).mp q)), pk_ushrN (by omega) 16 16 (by decide)]
      have hk : 16 ≤ n.log2 := (Nat.le_log2 (by omega)).mpr (by omega)
      have hl := nI_log2_div (n := n) (k := 16) (by omega)
      show f_J6_numberOfLeadingZeros_0f7a4_B33 (nI (n / 2 ^ 16)) (nI 15) = _
      rw [z_B33 (by omega) (by omega) (by omega), hl]
      congr 2
      omega
  · have hl : n.log2 = 31 := q_log2 (by omega) (by omega)
    have hT : (nI n).toInt = (n : Int) - 4294967296 := by
      rw [iI_nI, Int32.toInt_ofInt]
      show ((n : Int)).bmod 4294967296 = _
      rw [Int.bmod_def]
      omega
    have hneg : ¬ (0 : Int32) < nI n := by
      rw [Int32.lt_iff_toInt_lt, hT]
      show ¬ (0 : Int) < _
      omega
    have hne : ¬ nI n = 0 := by
      rw [← Int32.toInt_inj, hT]
      show ¬ _ = (0 : Int)
      omega
    rw [if_neg hneg, if_neg hne, hl]
    rfl
theorem z_long {c : Nat} (h0 : 0 < c) (h : c < 2 ^ 63) : f_J13_numberOfLeadingZeros_95d88 (lN c) = some (nI (63 - c.log2)) := by
  unfold f_J13_numberOfLeadingZeros_95d88
  have e1 : ((lN c).toUInt64 >>> ((32 : Int32).toInt64.toUInt64 &&& Int64.toUInt64 63)).toInt64 = lN (c / 2 ^ 32) := wb_shr (k := 32) (by omega) (by decide)
  rw [e1, lN_i, lN_i]
  show (if nI (c / 2 ^ 32) = 0 then _ else _) = _
  by_cases hz : c / 2 ^ 32 = 0
  · rw [hz, if_pos (show nI 0 = 0 from rfl), z_int h0 (by omega)]
    have hL : c.log2 ≤ 31 := by
      have := (Nat.log2_lt (by omega : c ≠ 0)).mpr (show c < 2 ^ 32 by omega)
      omega
    show some (nI 32 + nI (31 - c.log2)) = _
    rw [nI_add]
    congr 2
    omega
  · have hne : ¬ nI (c / 2 ^ 32) = 0 := fun q => hz ((nI_eq (by omega) (by decide : 0 < 2 ^ 31)).mp q)
    have hk : 32 ≤ c.log2 := (Nat.le_log2 (by omega)).mpr (by omega)
    rw [if_neg hne, z_int (by omega) (by omega)]
    have hl := nI_log2_div (n := c) (k := 32) (by omega)
    show some (nI (31 - (c / 2 ^ 32).log2)) = _
    rw [hl]
    congr 2
    omega
theorem lg_cmp_eq0 {c : Nat} (h : c < 2 ^ 63) : lg_cmp (lN c) 0 = 0 ↔ c = 0 := by
  unfold lg_cmp
  by_cases h0 : c = 0
  · subst h0
    simp
    rfl
  · have h1 : lN c > 0 := (pk_lLT (by decide : 0 < 2 ^ 63) h).mpr (by omega)
    rw [if_pos h1]
    simp [h0]
theorem z_sm {k : Nat} (h : k < 64) : ((lN k).toBitVec.smod 64).toNat = k := by
  rw [wb_tb, wb_sm k h, BitVec.toNat_ofNat, Nat.mod_eq_of_lt (by omega)]
theorem z_out (z : Int32) {b : Nat} (h : b ≤ 2139095040) : f_X1_rounded_B122 z (nI b) = some (Int32.ofInt (pOf (¬ z = 0) b)) := by
  unfold f_X1_rounded_B122 pOf
  by_cases hz : z = 0
  · rw [if_pos hz, if_neg (fun q => q hz), iI_nI]
  · rw [if_neg hz, if_pos hz, iI_nI, Int32.ofInt_sub]
    rfl
/-- 'rounded' comes to the nearest float -/
theorem z_rounded (z : Int32) {c : Nat} {x : Int} (hc : c < 2 ^ 61) (hx1 : -2000 ≤ x) (hx2 : x ≤ 2000) : f_X1_rounded z (lN c) (Int32.ofInt x) = some (Int32.ofInt (pOf (¬ z = 0) (q_rnd c x))) := by
  unfold f_X1_rounded
  by_cases h0 : c = 0
  · rw [if_pos ((lg_cmp_eq0 (by omega)).mpr h0)]
    have : q_rnd c x = 0 := by unfold q_rnd; rw [if_pos h0]
    rw [this]
    exact z_out z (b := 0) (by decide)
  · rw [if_neg (fun q => h0 ((lg_cmp_eq0 (by omega)).mp q)), z_long (by omega) (by omega)]
    have hL : c.log2 ≤ 60 := by
      have := (Nat.log2_lt h0).mpr hc
      omega
    have hLi : (c.log2 : Int) ≤ 60 := by omega
    have e16 : (64 : Int32) - nI (63 - c.log2) = Int32.ofInt ((c.log2 : Int) + 1) := by
      show nI 64 - _ = _
      rw [pk_sub (by omega), iI_nI]
      congr 1
      omega
    have e29 : o_max ((Int32.ofInt x + (64 - nI (63 - c.log2))) - 24) 1 = Int32.ofInt (q_fit c x) := by
      rw [e16]
      have e : (Int32.ofInt x + Int32.ofInt ((c.log2 : Int) + 1)) - 24 = Int32.ofInt (x + (c.log2 : Int) - 23) := by
        rw [← Int32.ofInt_add]
        show Int32.ofInt _ - Int32.ofInt 24 = _
        rw [← Int32.ofInt_sub]
        congr 1
        omega
      rw [e]
      unfold o_max
      have hiff : (Int32.ofInt (x + (c.log2 : Int) - 23) < 1) ↔ (x + (c.log2 : Int) - 23 < 1) := iI_lt (b := 1) (by omega) (by omega) (by decide) (by decide)
      unfold q_fit
      by_cases hlt : x + (c.log2 : Int) - 23 < 1
      · rw [if_pos (hiff.mpr hlt), Int.max_eq_right (by omega)]
        rfl
      · rw [if_neg (fun q => hlt (hiff.mp q)), Int.max_eq_left (by omega)]
    have hF1 := q_fit_pos c x
    have hFge := q_fit_ge c x
    have hFle : q_fit c x ≤ 2100 := by unfold q_fit; omega
    have hn := q_num_le (c := c) x
    simp only [o_nm, o_b1]
    rw [e29]
    have e35 : Int32.ofInt (q_fit c x) - Int32.ofInt x = Int32.ofInt (q_fit c x - x) := (Int32.ofInt_sub _ _).symm
    rw [e35]
    have h254 : (Int32.ofInt (q_fit c x) ≤ 254) ↔ q_fit c x ≤ 254 := iI_le (b := 254) (by omega) (by omega) (by decide) (by decide)
    by_cases hb : q_fit c x ≤ 254
    · rw [if_pos (h254.mpr hb)]
      have hr : q_rnd c x = (q_fit c x - 1).toNat * 8388608 + q_num c x := by
        unfold q_rnd
        rw [if_neg h0, if_neg (by omega)]
      have e1 : Int32.ofInt (q_fit c x) - 1 = nI (q_fit c x - 1).toNat := by
        rw [iI_nI]
        show Int32.ofInt _ - Int32.ofInt 1 = _
        rw [← Int32.ofInt_sub]
        congr 1
        omega
      have e2 : nI (q_fit c x - 1).toNat <<< ((23 : Int32) &&& 31) = nI ((q_fit c x - 1).toNat * 8388608) := pk_shlN _ 23 (by decide) (by omega)
      have hs0 : ((0 : Int32) < Int32.ofInt (q_fit c x - x)) ↔ 0 < q_fit c x - x := iI_lt (a := 0) (by decide) (by decide) (by omega) (by omega)
      by_cases hs : 0 < q_fit c x - x
      · rw [if_pos (hs0.mpr hs)]
        have hs63 : ((63 : Int32) ≤ Int32.ofInt (q_fit c x - x)) ↔ 63 ≤ q_fit c x - x := iI_le (a := 63) (by decide) (by decide) (by omega) (by omega)
        by_cases h63 : 63 ≤ q_fit c x - x
        · rw [if_pos (hs63.mpr h63)]
          have hz : q_rnd c x = 0 := by
            have hnum : q_num c x = 0 := by
              unfold q_num
              have a1 : (x - q_fit c x).toNat = 0 := by omega
              rw [a1]
              have a2 : 2 ^ 63 ≤ 2 ^ (q_fit c x - x).toNat := Nat.pow_le_pow_right (by decide) (by omega)
              unfold FP.Core.nearest
              rw [Nat.pow_zero, Nat.mul_one, Nat.mod_eq_of_lt (by omega), if_pos (by omega), Nat.div_eq_of_lt (by omega)]
            have hF : q_fit c x = 1 := by
              rcases (show 1 < q_fit c x ∨ q_fit c x = 1 by omega) with h | h
              · have := q_num_ge h0 h; omega
              · exact h
            rw [hr, hnum, hF]
            rfl
          rw [hz]
          exact z_out z (b := 0) (by decide)
        · rw [if_neg (fun q => h63 (hs63.mp q))]
          have ek : Int32.ofInt (q_fit c x - x) = nI (q_fit c x - x).toNat := by
            rw [iI_nI]
            congr 1
            omega
          have ek1 : Int32.ofInt (q_fit c x - x) - 1 = nI ((q_fit c x - x).toNat - 1) := by
            rw [iI_nI]
            show Int32.ofInt _ - Int32.ofInt 1 = _
            rw [← Int32.ofInt_sub]
            congr 1
            omega
          rw [ek1, ek, e1, e2]
          generalize hkk : (q_fit c x - x).toNat = k at *
          have hk1 : 0 < k := by omega
          have hk2 : k < 63 := by omega
          have hpow : 2 ^ (k - 1) ≤ 2 ^ 61 := Nat.pow_le_pow_right (by decide) (by omega)
          have hpos : 0 < 2 ^ (k - 1) := Nat.two_pow_pos _
          have s1 : lN c >>> ((nI k).toInt64 &&& 63) = lN (c / 2 ^ k) := by
            rw [wb_c _ (by omega)]
            exact pf_shr (z_sm (by omega)) (by omega)
          have hcd : c / 2 ^ k ≤ c := Nat.div_le_self _ _
          have s2 : (1 : Int64) <<< ((nI (k - 1)).toInt64 &&& 63) = lN (2 ^ (k - 1)) := by
            have := wb_shl 1 (k := k - 1) (by omega)
            rwa [Nat.one_mul] at this
          rw [s1, wb_a1 (by omega), s2, lN_add]
          have s3 : lN (c + 2 ^ (k - 1)) - 1 = lN (c + 2 ^ (k - 1) - 1) := lN_sub (b := 1) (by omega)
          rw [s3, lN_add]
          have hod : c / 2 ^ k % 2 ≤ 1 := by omega
          have s4 : lN (c + 2 ^ (k - 1) - 1 + c / 2 ^ k % 2) >>> ((nI k).toInt64 &&& 63) = lN ((c + 2 ^ (k - 1) - 1 + c / 2 ^ k % 2) / 2 ^ k) := by
            rw [wb_c _ (by omega)]
            exact pf_shr (z_sm (by omega)) (by omega)
          rw [s4, ← q_near_shift hk1, lN_i]
          have hq : FP.Core.nearest c (2 ^ k) = q_num c x := by
            unfold q_num
            have a1 : (x - q_fit c x).toNat = 0 := by omega
            rw [a1, hkk, Nat.pow_zero, Nat.mul_one]
          rw [hq, nI_add, ← hr]
          exact z_out z (q_rnd_le _ _)
      · rw [if_neg (fun q => hs (hs0.mp q))]
        have ek : -Int32.ofInt (q_fit c x - x) = nI (x - q_fit c x).toNat := by
          rw [iI_nI, ← Int32.ofInt_neg]
          congr 1
          omega
        rw [ek, e1, e2]
        have hj : (x - q_fit c x).toNat ≤ 23 := by omega
        rw [wb_shl _ (by omega), lN_i]
        have hq : c * 2 ^ (x - q_fit c x).toNat = q_num c x := by
          unfold q_num
          have a1 : (q_fit c x - x).toNat = 0 := by omega
          rw [a1, Nat.pow_zero, q_near_one]
        rw [hq, nI_add, ← hr]
        exact z_out z (q_rnd_le _ _)
    · rw [if_neg (fun q => hb (h254.mp q))]
      have hr : q_rnd c x = 2139095040 := by
        unfold q_rnd
        rw [if_neg h0, if_pos (by omega)]
      rw [hr]
      exact z_out z (b := 2139095040) (by decide)
