/-! ===== rounding: the float nearest to c * 2^(x - 150), by its bits without the sign ===== -/
def q_fit (c : Nat) (x : Int) : Int := max (x + (c.log2 : Int) - 23) 1
def q_num (c : Nat) (x : Int) : Nat := FP.Core.nearest (c * 2 ^ (x - q_fit c x).toNat) (2 ^ (q_fit c x - x).toNat)
def q_rnd (c : Nat) (x : Int) : Nat := if c = 0 then 0 else if 254 < q_fit c x then 2139095040 else (q_fit c x - 1).toNat * 8388608 + q_num c x
theorem q_log2 {n k : Nat} (h1 : 2 ^ k ≤ n) (h2 : n < 2 ^ (k + 1)) : n.log2 = k := by
  have hn : n ≠ 0 := by have := Nat.two_pow_pos k; omega
  exact (Nat.log2_eq_iff hn).mpr ⟨h1, h2⟩
theorem q_fit_pos (c : Nat) (x : Int) : 1 ≤ q_fit c x := by unfold q_fit; omega
theorem q_fit_ge (c : Nat) (x : Int) : x + (c.log2 : Int) - 23 ≤ q_fit c x := by unfold q_fit; omega
theorem q_fit_eq {c : Nat} {x : Int} (h : 1 < q_fit c x) : q_fit c x = x + (c.log2 : Int) - 23 := by unfold q_fit at h ⊢; omega
theorem q_num_le {c : Nat} (x : Int) : q_num c x ≤ 16777216 := by
  unfold q_num
  have h1 := q_fit_ge c x
  generalize q_fit c x = F at h1 ⊢
  refine FP.Core.nearest_le (Nat.two_pow_pos _) ?_
  have b := Nat.lt_log2_self (n := c)
  have e : (c.log2 + 1) + (x - F).toNat ≤ 24 + (F - x).toNat := by omega
  have h2 : c * 2 ^ (x - F).toNat ≤ 2 ^ (c.log2 + 1) * 2 ^ (x - F).toNat := Nat.mul_le_mul_right _ (Nat.le_of_lt b)
  have h3 : 2 ^ (c.log2 + 1) * 2 ^ (x - F).toNat ≤ 2 ^ 24 * 2 ^ (F - x).toNat := by
    rw [← Nat.pow_add, ← Nat.pow_add]
    exact Nat.pow_le_pow_right (by decide) e
  exact Nat.le_trans h2 h3
theorem q_num_ge {c : Nat} {x : Int} (hc : c ≠ 0) (h : 1 < q_fit c x) : 8388608 ≤ q_num c x := by
  unfold q_num
  have h1 := q_fit_eq h
  generalize q_fit c x = F at h1 ⊢
  refine FP.Core.nearest_ge (Nat.two_pow_pos _) ?_
  have a := Nat.log2_self_le hc
  have e : 23 + (F - x).toNat = c.log2 + (x - F).toNat := by omega
  have h2 : 2 ^ 23 * 2 ^ (F - x).toNat = 2 ^ c.log2 * 2 ^ (x - F).toNat := by
    rw [← Nat.pow_add, ← Nat.pow_add, e]
  exact Nat.le_trans (Nat.le_of_eq h2) (Nat.mul_le_mul_right _ a)
theorem q_rnd_le (c : Nat) (x : Int) : q_rnd c x ≤ 2139095040 := by
  unfold q_rnd
  have h1 := q_num_le (c := c) x
  have h2 := q_fit_pos c x
  split
  · omega
  · split
    · omega
    · omega
/-- only the value counts -/
theorem q_rnd_scale (c k : Nat) (x : Int) : q_rnd (c * 2 ^ k) x = q_rnd c (x + k) := by
  by_cases hc : c = 0
  · subst hc
    rw [Nat.zero_mul]
    rfl
  have hck : c * 2 ^ k ≠ 0 := Nat.mul_ne_zero hc (Nat.ne_of_gt (Nat.two_pow_pos k))
  have hl : (c * 2 ^ k).log2 = c.log2 + k := by
    refine q_log2 ?_ ?_
    · rw [Nat.pow_add]
      exact Nat.mul_le_mul_right _ (Nat.log2_self_le hc)
    · rw [show c.log2 + k + 1 = (c.log2 + 1) + k by omega, Nat.pow_add]
      exact Nat.mul_lt_mul_of_pos_right Nat.lt_log2_self (Nat.two_pow_pos k)
  have hF : q_fit (c * 2 ^ k) x = q_fit c (x + k) := by
    unfold q_fit
    rw [hl]
    omega
  have hN : q_num (c * 2 ^ k) x = q_num c (x + k) := by
    unfold q_num
    rw [hF]
    generalize q_fit c (x + k) = F
    refine FP.Core.nearest_congr (Nat.two_pow_pos _) (Nat.two_pow_pos _) ?_
    have e : k + (x - F).toNat + (F - (x + k)).toNat = (x + k - F).toNat + (F - x).toNat := by omega
    rw [Nat.mul_assoc, Nat.mul_assoc, Nat.mul_assoc, ← Nat.pow_add, ← Nat.pow_add, ← Nat.pow_add]
    congr 2
    omega
  unfold q_rnd
  rw [if_neg hck, if_neg hc, hF, hN]
theorem q_near_mono {A A' B : Nat} (hB : 0 < B) (h : A ≤ A') : FP.Core.nearest A B ≤ FP.Core.nearest A' B := by
  have h1 : A / B ≤ A' / B := Nat.div_le_div_right h
  have h2 : A / B = A' / B → A % B ≤ A' % B := fun e => by
    have a := Nat.div_add_mod A B
    have b := Nat.div_add_mod A' B
    rw [e] at a
    omega
  have m1 := Nat.mod_lt A hB
  have m2 := Nat.mod_lt A' hB
  unfold FP.Core.nearest
  generalize A / B = d at *
  generalize A' / B = d' at *
  generalize A % B = r at *
  generalize A' % B = r' at *
  by_cases e : d = d'
  · subst e
    have := h2 rfl
    repeat' split
    all_goals omega
  · repeat' split
    all_goals omega
theorem q_rnd_mono {c d : Nat} (x : Int) (h : c ≤ d) : q_rnd c x ≤ q_rnd d x := by
  by_cases hc : c = 0
  · subst hc
    unfold q_rnd
    rw [if_pos rfl]
    exact Nat.zero_le _
  have hd : d ≠ 0 := by omega
  have hlog : c.log2 ≤ d.log2 := by
    have a := Nat.log2_self_le hc
    have b := Nat.lt_log2_self (n := d)
    have := (Nat.pow_lt_pow_iff_right (by decide : 1 < 2)).mp (Nat.lt_of_le_of_lt (Nat.le_trans a h) b)
    omega
  have hFF : q_fit c x ≤ q_fit d x := by unfold q_fit; omega
  have hle := q_rnd_le c x
  unfold q_rnd at hle ⊢
  rw [if_neg hc] at hle ⊢
  rw [if_neg hd]
  by_cases h2 : 254 < q_fit d x
  · rw [if_pos h2]
    exact hle
  · rw [if_neg h2]
    rw [if_neg (by omega)]
    by_cases hE : q_fit c x = q_fit d x
    · have : q_num c x ≤ q_num d x := by
        unfold q_num
        rw [hE]
        exact q_near_mono (Nat.two_pow_pos _) (Nat.mul_le_mul_right _ h)
      rw [hE]
      omega
    · have a := q_num_le (c := c) x
      have b := q_num_ge (x := x) hd (by have := q_fit_pos c x; omega)
      have g := q_fit_pos c x
      omega
theorem q_leading {c : Nat} (h : c ≠ 0) : FP.Core.leading c 1 = (c.log2 : Int) := by
  have h2 : 2 ^ c.log2 ≤ c := Nat.log2_self_le h
  have h1 : Nat.log2 1 = 0 := by decide
  unfold FP.Core.leading
  rw [h1]
  have e : ((c.log2 : Int) - ((0 : Nat) : Int)) = (c.log2 : Int) := by omega
  dsimp only
  rw [e]
  have e2 : ((c.log2 : Int)).toNat = c.log2 := by omega
  have e3 : (-(c.log2 : Int)).toNat = 0 := by omega
  rw [e2, e3, if_pos (by omega)]
/-- what the machine's rounding writes down -/
theorem q_encode (s : Bool) (c : Nat) (x : Int) : FP.Core.encode FP.Core.b32 (FP.Core.roundRatio FP.Core.b32 s c 1 (x - 150)) = s.toNat * 2147483648 + q_rnd c x := by
  have hmin : FP.Core.Fmt.qmin FP.Core.b32 = -149 := by decide +kernel
  have hmax : FP.Core.Fmt.qmax FP.Core.b32 = 104 := by decide +kernel
  have htl : FP.Core.Fmt.tails FP.Core.b32 = 8388608 := by decide +kernel
  have hex : FP.Core.Fmt.exps FP.Core.b32 = 256 := by decide +kernel
  have hp : FP.Core.b32.p = 24 := rfl
  have hp2 : (2 : Nat) ^ FP.Core.b32.p = 16777216 := by decide +kernel
  have hinf : FP.Core.encode FP.Core.b32 (.inf s) = s.toNat * 2147483648 + 2139095040 := by cases s <;> decide +kernel
  have has : ∀ e t : Nat, FP.Core.assemble FP.Core.b32 s e t = (s.toNat * 256 + e) * 8388608 + t := fun e t => by
    unfold FP.Core.assemble
    rw [htl, hex]
  have hen : ∀ (n : Nat) (q : Int), FP.Core.encode FP.Core.b32 (.fin s n q) = if n < 8388608 then (s.toNat * 256 + 0) * 8388608 + n else (s.toNat * 256 + ((q - (-149)).toNat + 1)) * 8388608 + (n - 8388608) := fun n q => by
    show (if n < FP.Core.Fmt.tails FP.Core.b32 then FP.Core.assemble FP.Core.b32 s 0 n else FP.Core.assemble FP.Core.b32 s ((q - FP.Core.Fmt.qmin FP.Core.b32).toNat + 1) (n - FP.Core.Fmt.tails FP.Core.b32)) = _
    rw [has, has, htl, hmin]
  unfold FP.Core.roundRatio
  by_cases hc : c = 0
  · rw [if_pos hc, hen, if_pos (by decide)]
    unfold q_rnd
    rw [if_pos hc]
    omega
  · rw [if_neg hc]
    have hq : FP.Core.quantum FP.Core.b32 c 1 (x - 150) = q_fit c x - 150 := by
      unfold FP.Core.quantum q_fit
      rw [q_leading hc, hmin, hp]
      omega
    unfold FP.Core.roundAt
    rw [hq]
    have hnum : FP.Core.nearest (FP.Core.unitsNum c (x - 150) (q_fit c x - 150)) (FP.Core.unitsDen 1 (x - 150) (q_fit c x - 150)) = q_num c x := by
      unfold FP.Core.unitsNum FP.Core.unitsDen q_num
      rw [Nat.one_mul]
      have e1 : (x - 150 - (q_fit c x - 150)) = x - q_fit c x := by omega
      have e2 : (q_fit c x - 150 - (x - 150)) = q_fit c x - x := by omega
      rw [e1, e2]
    rw [hnum]
    unfold q_rnd
    rw [if_neg hc]
    have g1 := q_fit_pos c x
    have g2 := q_num_le (c := c) x
    have g3 : 1 < q_fit c x → 8388608 ≤ q_num c x := fun h => q_num_ge hc h
    generalize q_fit c x = F at g1 g3 ⊢
    generalize q_num c x = n at g2 g3 ⊢
    unfold FP.Core.settle FP.Core.bound
    rw [hp2, hmax, htl]
    by_cases h254 : 254 < F
    · rw [if_pos h254]
      have a1 : ¬ F - 150 ≤ 104 := by omega
      have a2 : ¬ F - 150 + 1 ≤ 104 := by omega
      rw [if_neg a1, if_neg a2, ite_self, hinf]
    · rw [if_neg h254]
      have a1 : F - 150 ≤ 104 := by omega
      rw [if_pos a1]
      by_cases hn : n < 16777216
      · rw [if_pos hn, hen]
        by_cases h8 : n < 8388608
        · rw [if_pos h8]
          have hF : F = 1 := by
            rcases (show 1 < F ∨ F = 1 by omega) with h | h
            · have := g3 h; omega
            · exact h
          subst hF
          omega
        · rw [if_neg h8]
          omega
      · rw [if_neg hn]
        have hn2 : n = 16777216 := by omega
        subst hn2
        by_cases h253 : F - 150 + 1 ≤ 104
        · rw [if_pos h253, hen, if_neg (by decide)]
          omega
        · rw [if_neg h253, hinf]
          have hF : F = 254 := by omega
          subst hF
          omega
/-! the class's way to the nearest -/
theorem q_near_shift {c k : Nat} (hk : 0 < k) : FP.Core.nearest c (2 ^ k) = (c + 2 ^ (k - 1) - 1 + c / 2 ^ k % 2) / 2 ^ k := by
  have hB : 2 ^ k = 2 * 2 ^ (k - 1) := FP.Core.two_pow_pred k hk
  have hp : 0 < 2 ^ (k - 1) := Nat.two_pow_pos _
  rw [hB]
  generalize 2 ^ (k - 1) = h at hp ⊢
  have hd := Nat.div_add_mod c (2 * h)
  have hm := Nat.mod_lt c (show 0 < 2 * h by omega)
  unfold FP.Core.nearest
  generalize c / (2 * h) = d at hd ⊢
  generalize c % (2 * h) = m at hd hm ⊢
  have e2 : d % 2 = 0 ∨ d % 2 = 1 := by omega
  have e1 : c + h - 1 + d % 2 = 2 * h * d + (m + h - 1 + d % 2) := by
    rw [← hd]
    generalize 2 * h * d = P
    omega
  rw [e1, Nat.mul_add_div (by omega)]
  by_cases a : 2 * m < 2 * h
  · rw [if_pos a, Nat.div_eq_of_lt (by omega)]
    rfl
  · rw [if_neg a]
    by_cases b : 2 * h < 2 * m
    · rw [if_pos b]
      have : (m + h - 1 + d % 2) / (2 * h) = 1 := by
        refine Nat.div_eq_of_lt_le ?_ ?_
        · omega
        · omega
      rw [this]
    · rw [if_neg b]
      have hmh : m = h := by omega
      subst hmh
      rcases e2 with e | e
      · rw [e, Nat.div_eq_of_lt (by omega)]
      · rw [e]
        have : (m + m - 1 + 1) / (2 * m) = 1 := by
          rw [show m + m - 1 + 1 = 2 * m by omega]
          exact Nat.div_self (by omega)
        rw [this]
theorem q_near_one (n : Nat) : FP.Core.nearest n 1 = n := by
  have := FP.Core.nearest_exact (B := 1) n (by decide)
  rwa [Nat.mul_one] at this
