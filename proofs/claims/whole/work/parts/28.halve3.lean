/-! ===== the reference's searches ===== -/
theorem y_half {v : Int} (h1 : -4611686018427387904 ≤ v) (h2 : v < 4611686018427387904) : f_X8_floorHalf (Int64.ofInt v) = some (Int64.ofInt (v / 2)) := by
  unfold f_X8_floorHalf
  have hl : (lg_cmp (Int64.ofInt v) 0 < 0) ↔ v < 0 := by
    rw [lc_lt, jI_T (by omega) (by omega)]
    exact Iff.rfl
  by_cases h : v < 0
  · rw [if_pos (hl.mpr h)]
    congr 1
    have e : Int64.ofInt v - 1 = Int64.ofInt (v - 1) := (Int64.ofInt_sub v 1).symm
    rw [e, ← Int64.toInt_inj, Int64.toInt_div_of_ne_right _ _ (by decide), jI_T (by omega) (by omega), jI_T (by omega) (by omega)]
    show (v - 1).tdiv 2 = v / 2
    have e2 : v - 1 = -(1 - v) := by omega
    rw [e2, Int.neg_tdiv, Int.tdiv_eq_ediv_of_nonneg (by omega)]
    omega
  · rw [if_neg (fun q => h (hl.mp q))]
    congr 1
    rw [← Int64.toInt_inj, Int64.toInt_div_of_ne_right _ _ (by decide), jI_T (by omega) (by omega), jI_T (by omega) (by omega)]
    show v.tdiv 2 = v / 2
    rw [Int.tdiv_eq_ediv_of_nonneg (by omega)]
theorem lc_geI {a b : Int} (h1 : -4611686018427387904 ≤ a) (h2 : a < 4611686018427387904) (h3 : -4611686018427387904 ≤ b) (h4 : b < 4611686018427387904) : (0 ≤ lg_cmp (Int64.ofInt a) (Int64.ofInt b)) ↔ b ≤ a := by
  rw [lc_ge, jI_T (by omega) (by omega), jI_T (by omega) (by omega)]
theorem y_firstRisingL {N : Nat} {kd : Int32} {q r : Int32} {F : Int → Int} {goal lo hi : Int} (hlo : isP lo) (hhi : isP hi) (hg1 : -2147483000 ≤ goal) (hg2 : goal ≤ 2147483000) (hF : ∀ p, lo ≤ p → p ≤ hi → f_X8_outer kd (Int32.ofInt p) q r 1 = some (Int32.ofInt (F p))) (hFin : ∀ p, -2139095041 ≤ F p ∧ F p ≤ 2139095040) (hmono : ∀ p p', lo ≤ p → p ≤ p' → p' ≤ hi → (goal ≤ F p) → (goal ≤ F p')) :
    ∀ (k n : Nat) (a b : Int), lo ≤ a → a ≤ b → b ≤ hi + 1 → (∀ p, lo ≤ p → p < a → ¬ (goal ≤ F p)) → (∀ p, b ≤ p → p ≤ hi → goal ≤ F p) → b - a < 2 ^ k → k < n →
    ∃ x, f_X8_firstRising_L10 N n kd q r (Int32.ofInt goal) (Int64.ofInt a) (Int64.ofInt b) = some (Int64.ofInt x) ∧ isFirst (fun p => goal ≤ F p) lo hi x := by
  have hlo' := hlo
  have hhi' := hhi
  unfold isP at hlo' hhi'
  intro k
  induction k with
  | zero =>
    intro n a b h1 h2 h3 h4 h5 hw hn
    obtain ⟨n', rfl⟩ : ∃ n', n = n' + 1 := ⟨n - 1, by omega⟩
    have hab : a = b := by
      have : (2 : Int) ^ 0 = 1 := rfl
      omega
    show ∃ x, f_X8_firstRising_C10 N _ _ _ _ _ _ _ = _ ∧ _
    unfold f_X8_firstRising_C10
    rw [if_pos ((lc_geI (by omega) (by omega) (by omega) (by omega)).mpr (by omega))]
    exact ⟨a, rfl, h1, by omega, h4, fun p p1 p2 => h5 p (by omega) p2⟩
  | succ k ih =>
    intro n a b h1 h2 h3 h4 h5 hw hn
    obtain ⟨n', rfl⟩ : ∃ n', n = n' + 1 := ⟨n - 1, by omega⟩
    have hge := lc_geI (a := a) (b := b) (by omega) (by omega) (by omega) (by omega)
    show ∃ x, f_X8_firstRising_C10 N _ _ _ _ _ _ _ = _ ∧ _
    unfold f_X8_firstRising_C10
    by_cases hba : b ≤ a
    · rw [if_pos (hge.mpr hba)]
      exact ⟨a, rfl, h1, by omega, h4, fun p p1 p2 => h5 p (by omega) p2⟩
    · rw [if_neg (fun x => hba (hge.mp x)), ← Int64.ofInt_add, y_half (by omega) (by omega)]
      simp only [o_b1]
      rw [jI_32, hF ((a + b) / 2) (by omega) (by omega)]
      simp only [f_X8_firstRising_B49, f_X8_firstRising_B65, f_X8_firstRising_B79]
      have hb := hFin ((a + b) / 2)
      have hiff : (Int32.ofInt (F ((a + b) / 2)) < Int32.ofInt goal) ↔ F ((a + b) / 2) < goal := iI_lt (by omega) (by omega) (by omega) (by omega)
      rw [p33] at hw
      by_cases hc : F ((a + b) / 2) < goal
      · rw [if_pos (hiff.mpr hc), if_pos trivial, if_pos trivial]
        have e1 : Int64.ofInt ((a + b) / 2) + 1 = Int64.ofInt ((a + b) / 2 + 1) := (Int64.ofInt_add _ 1).symm
        rw [e1]
        refine ih n' ((a + b) / 2 + 1) b (by omega) (by omega) h3 (fun p p1 p2 x => ?_) h5 (by omega) (by omega)
        have := hmono p ((a + b) / 2) p1 (by omega) (by omega) x
        omega
      · rw [if_neg (fun x => hc (hiff.mp x)), if_neg (by decide), if_neg (by decide)]
        exact ih n' a ((a + b) / 2) h1 (by omega) (by omega) h4 (fun p p1 p2 => hmono ((a + b) / 2) p (by omega) p1 p2 (by omega)) (by omega) (by omega)
theorem y_firstRising {N : Nat} {kd : Int32} {q r : Int32} {F : Int → Int} {goal lo hi : Int} (hN : 40 ≤ N) (hlo : isP lo) (hhi : isP hi) (hle : lo ≤ hi) (hg1 : -2147483000 ≤ goal) (hg2 : goal ≤ 2147483000) (hF : ∀ p, lo ≤ p → p ≤ hi → f_X8_outer kd (Int32.ofInt p) q r 1 = some (Int32.ofInt (F p))) (hFin : ∀ p, -2139095041 ≤ F p ∧ F p ≤ 2139095040) (hmono : ∀ p p', lo ≤ p → p ≤ p' → p' ≤ hi → (goal ≤ F p) → (goal ≤ F p')) :
    ∃ x, f_X8_firstRising N kd (Int32.ofInt lo) (Int32.ofInt hi) q r (Int32.ofInt goal) = some (Int64.ofInt x) ∧ isFirst (fun p => goal ≤ F p) lo hi x := by
  have hlo' := hlo
  have hhi' := hhi
  unfold isP at hlo' hhi'
  unfold f_X8_firstRising
  simp only [o_nm]
  rw [iI_64 (by omega) (by omega), iI_64 (by omega) (by omega)]
  have e1 : Int64.ofInt hi + 1 = Int64.ofInt (hi + 1) := (Int64.ofInt_add _ 1).symm
  rw [e1]
  refine y_firstRisingL hlo hhi hg1 hg2 hF hFin hmono 33 N lo (hi + 1) (by omega) (by omega) (by omega) (fun p p1 p2 => by omega) (fun p p1 p2 => by omega) (by
    have : (2 : Int) ^ 33 = 8589934592 := by decide
    omega) (by omega)
theorem y_lastRisingL {N : Nat} {kd : Int32} {q r : Int32} {F : Int → Int} {goal lo hi : Int} (hlo : isP lo) (hhi : isP hi) (hg1 : -2147483000 ≤ goal) (hg2 : goal ≤ 2147483000) (hF : ∀ p, lo ≤ p → p ≤ hi → f_X8_outer kd (Int32.ofInt p) q r 0 = some (Int32.ofInt (F p))) (hFin : ∀ p, -2139095041 ≤ F p ∧ F p ≤ 2139095040) (hmono : ∀ p p', lo ≤ p → p ≤ p' → p' ≤ hi → (goal < F p) → (goal < F p')) :
    ∀ (k n : Nat) (a b : Int), lo - 1 ≤ a → a ≤ b → b ≤ hi → (∀ p, lo ≤ p → p ≤ a → ¬ (goal < F p)) → (∀ p, b < p → p ≤ hi → goal < F p) → b - a < 2 ^ k → k < n →
    ∃ x, f_X8_lastRising_L10 N n kd q r (Int32.ofInt goal) (Int64.ofInt a) (Int64.ofInt b) = some (Int64.ofInt x) ∧ isFirst (fun p => goal < F p) lo hi (x + 1) := by
  have hlo' := hlo
  have hhi' := hhi
  unfold isP at hlo' hhi'
  intro k
  induction k with
  | zero =>
    intro n a b h1 h2 h3 h4 h5 hw hn
    obtain ⟨n', rfl⟩ : ∃ n', n = n' + 1 := ⟨n - 1, by omega⟩
    have hab : a = b := by
      have : (2 : Int) ^ 0 = 1 := rfl
      omega
    show ∃ x, f_X8_lastRising_C10 N _ _ _ _ _ _ _ = _ ∧ _
    unfold f_X8_lastRising_C10
    rw [if_pos ((lc_geI (by omega) (by omega) (by omega) (by omega)).mpr (by omega))]
    exact ⟨a, rfl, by omega, by omega, fun p p1 p2 => h4 p p1 (by omega), fun p p1 p2 => h5 p (by omega) p2⟩
  | succ k ih =>
    intro n a b h1 h2 h3 h4 h5 hw hn
    obtain ⟨n', rfl⟩ : ∃ n', n = n' + 1 := ⟨n - 1, by omega⟩
    have hge := lc_geI (a := a) (b := b) (by omega) (by omega) (by omega) (by omega)
    show ∃ x, f_X8_lastRising_C10 N _ _ _ _ _ _ _ = _ ∧ _
    unfold f_X8_lastRising_C10
    by_cases hba : b ≤ a
    · rw [if_pos (hge.mpr hba)]
      exact ⟨a, rfl, by omega, by omega, fun p p1 p2 => h4 p p1 (by omega), fun p p1 p2 => h5 p (by omega) p2⟩
    · rw [if_neg (fun x => hba (hge.mp x)), ← Int64.ofInt_add]
      have e0 : Int64.ofInt (a + b) + 1 = Int64.ofInt (a + b + 1) := (Int64.ofInt_add _ 1).symm
      rw [e0, y_half (by omega) (by omega)]
      simp only [o_b1]
      rw [jI_32, hF ((a + b + 1) / 2) (by omega) (by omega)]
      simp only [f_X8_lastRising_B51, f_X8_lastRising_B65, f_X8_lastRising_B81]
      have hb := hFin ((a + b + 1) / 2)
      have hiff : (Int32.ofInt goal < Int32.ofInt (F ((a + b + 1) / 2))) ↔ goal < F ((a + b + 1) / 2) := iI_lt (by omega) (by omega) (by omega) (by omega)
      rw [p33] at hw
      by_cases hc : goal < F ((a + b + 1) / 2)
      · rw [if_pos (hiff.mpr hc), if_pos trivial, if_pos trivial]
        have e1 : Int64.ofInt ((a + b + 1) / 2) - 1 = Int64.ofInt (((a + b + 1) / 2) - 1) := (Int64.ofInt_sub _ 1).symm
        rw [e1]
        exact ih n' a (((a + b + 1) / 2) - 1) h1 (by omega) (by omega) h4 (fun p p1 p2 => hmono ((a + b + 1) / 2) p (by omega) (by omega) p2 hc) (by omega) (by omega)
      · rw [if_neg (fun x => hc (hiff.mp x)), if_neg (by decide), if_neg (by decide)]
        refine ih n' ((a + b + 1) / 2) b (by omega) (by omega) h3 (fun p p1 p2 x => ?_) h5 (by omega) (by omega)
        exact hc (hmono p ((a + b + 1) / 2) p1 p2 (by omega) x)
theorem y_lastRising {N : Nat} {kd : Int32} {q r : Int32} {F : Int → Int} {goal lo hi : Int} (hN : 40 ≤ N) (hlo : isP lo) (hhi : isP hi) (hle : lo ≤ hi) (hg1 : -2147483000 ≤ goal) (hg2 : goal ≤ 2147483000) (hF : ∀ p, lo ≤ p → p ≤ hi → f_X8_outer kd (Int32.ofInt p) q r 0 = some (Int32.ofInt (F p))) (hFin : ∀ p, -2139095041 ≤ F p ∧ F p ≤ 2139095040) (hmono : ∀ p p', lo ≤ p → p ≤ p' → p' ≤ hi → (goal < F p) → (goal < F p')) :
    ∃ x, f_X8_lastRising N kd (Int32.ofInt lo) (Int32.ofInt hi) q r (Int32.ofInt goal) = some (Int64.ofInt x) ∧ isFirst (fun p => goal < F p) lo hi (x + 1) := by
  have hlo' := hlo
  have hhi' := hhi
  unfold isP at hlo' hhi'
  unfold f_X8_lastRising
  simp only [o_nm]
  rw [iI_64 (by omega) (by omega), iI_64 (by omega) (by omega)]
  have e1 : Int64.ofInt lo - 1 = Int64.ofInt (lo - 1) := (Int64.ofInt_sub _ 1).symm
  rw [e1]
  refine y_lastRisingL hlo hhi hg1 hg2 hF hFin hmono 33 N (lo - 1) hi (by omega) (by omega) (by omega) (fun p p1 p2 => by omega) (fun p p1 p2 => by omega) (by
    have : (2 : Int) ^ 33 = 8589934592 := by decide
    omega) (by omega)
theorem y_lastFallingL {N : Nat} {q r : Int32} {F : Int → Int} {goal lo hi : Int} (hlo : isP lo) (hhi : isP hi) (hg1 : -2147483000 ≤ goal) (hg2 : goal ≤ 2147483000) (hF : ∀ p, lo ≤ p → p ≤ hi → f_X8_outer 1 (Int32.ofInt p) q r 1 = some (Int32.ofInt (F p))) (hFin : ∀ p, -2139095041 ≤ F p ∧ F p ≤ 2139095040) (hmono : ∀ p p', lo ≤ p → p ≤ p' → p' ≤ hi → (F p < goal) → (F p' < goal)) :
    ∀ (k n : Nat) (a b : Int), lo - 1 ≤ a → a ≤ b → b ≤ hi → (∀ p, lo ≤ p → p ≤ a → ¬ (F p < goal)) → (∀ p, b < p → p ≤ hi → F p < goal) → b - a < 2 ^ k → k < n →
    ∃ x, f_X8_lastFalling_L10 N n q r (Int32.ofInt goal) (Int64.ofInt a) (Int64.ofInt b) = some (Int64.ofInt x) ∧ isFirst (fun p => F p < goal) lo hi (x + 1) := by
  have hlo' := hlo
  have hhi' := hhi
  unfold isP at hlo' hhi'
  intro k
  induction k with
  | zero =>
    intro n a b h1 h2 h3 h4 h5 hw hn
    obtain ⟨n', rfl⟩ : ∃ n', n = n' + 1 := ⟨n - 1, by omega⟩
    have hab : a = b := by
      have : (2 : Int) ^ 0 = 1 := rfl
      omega
    show ∃ x, f_X8_lastFalling_C10 N _ _ _ _ _ _ = _ ∧ _
    unfold f_X8_lastFalling_C10
    rw [if_pos ((lc_geI (by omega) (by omega) (by omega) (by omega)).mpr (by omega))]
    exact ⟨a, rfl, by omega, by omega, fun p p1 p2 => h4 p p1 (by omega), fun p p1 p2 => h5 p (by omega) p2⟩
  | succ k ih =>
    intro n a b h1 h2 h3 h4 h5 hw hn
    obtain ⟨n', rfl⟩ : ∃ n', n = n' + 1 := ⟨n - 1, by omega⟩
    have hge := lc_geI (a := a) (b := b) (by omega) (by omega) (by omega) (by omega)
    show ∃ x, f_X8_lastFalling_C10 N _ _ _ _ _ _ = _ ∧ _
    unfold f_X8_lastFalling_C10
    by_cases hba : b ≤ a
    · rw [if_pos (hge.mpr hba)]
      exact ⟨a, rfl, by omega, by omega, fun p p1 p2 => h4 p p1 (by omega), fun p p1 p2 => h5 p (by omega) p2⟩
    · rw [if_neg (fun x => hba (hge.mp x)), ← Int64.ofInt_add]
      have e0 : Int64.ofInt (a + b) + 1 = Int64.ofInt (a + b + 1) := (Int64.ofInt_add _ 1).symm
      rw [e0, y_half (by omega) (by omega)]
      simp only [o_b1]
      rw [jI_32, hF ((a + b + 1) / 2) (by omega) (by omega)]
      simp only [f_X8_lastFalling_B50, f_X8_lastFalling_B64, f_X8_lastFalling_B80]
      have hb := hFin ((a + b + 1) / 2)
      have hiff : (Int32.ofInt (F ((a + b + 1) / 2)) < Int32.ofInt goal) ↔ F ((a + b + 1) / 2) < goal := iI_lt (by omega) (by omega) (by omega) (by omega)
      rw [p33] at hw
      by_cases hc : F ((a + b + 1) / 2) < goal
      · rw [if_pos (hiff.mpr hc), if_pos trivial, if_pos trivial]
        have e1 : Int64.ofInt ((a + b + 1) / 2) - 1 = Int64.ofInt (((a + b + 1) / 2) - 1) := (Int64.ofInt_sub _ 1).symm
        rw [e1]
        exact ih n' a (((a + b + 1) / 2) - 1) h1 (by omega) (by omega) h4 (fun p p1 p2 => hmono ((a + b + 1) / 2) p (by omega) (by omega) p2 hc) (by omega) (by omega)
      · rw [if_neg (fun x => hc (hiff.mp x)), if_neg (by decide), if_neg (by decide)]
        refine ih n' ((a + b + 1) / 2) b (by omega) (by omega) h3 (fun p p1 p2 x => ?_) h5 (by omega) (by omega)
        exact hc (hmono p ((a + b + 1) / 2) p1 p2 (by omega) x)
theorem y_lastFalling {N : Nat} {q r : Int32} {F : Int → Int} {goal lo hi : Int} (hN : 40 ≤ N) (hlo : isP lo) (hhi : isP hi) (hle : lo ≤ hi) (hg1 : -2147483000 ≤ goal) (hg2 : goal ≤ 2147483000) (hF : ∀ p, lo ≤ p → p ≤ hi → f_X8_outer 1 (Int32.ofInt p) q r 1 = some (Int32.ofInt (F p))) (hFin : ∀ p, -2139095041 ≤ F p ∧ F p ≤ 2139095040) (hmono : ∀ p p', lo ≤ p → p ≤ p' → p' ≤ hi → (F p < goal) → (F p' < goal)) :
    ∃ x, f_X8_lastFalling N (Int32.ofInt lo) (Int32.ofInt hi) q r (Int32.ofInt goal) = some (Int64.ofInt x) ∧ isFirst (fun p => F p < goal) lo hi (x + 1) := by
  have hlo' := hlo
  have hhi' := hhi
  unfold isP at hlo' hhi'
  unfold f_X8_lastFalling
  simp only [o_nm]
  rw [iI_64 (by omega) (by omega), iI_64 (by omega) (by omega)]
  have e1 : Int64.ofInt lo - 1 = Int64.ofInt (lo - 1) := (Int64.ofInt_sub _ 1).symm
  rw [e1]
  refine y_lastFallingL hlo hhi hg1 hg2 hF hFin hmono 33 N (lo - 1) hi (by omega) (by omega) (by omega) (fun p p1 p2 => by omega) (fun p p1 p2 => by omega) (by
    have : (2 : Int) ^ 33 = 8589934592 := by decide
    omega) (by omega)
theorem y_firstFallingL {N : Nat} {q r : Int32} {F : Int → Int} {goal lo hi : Int} (hlo : isP lo) (hhi : isP hi) (hg1 : -2147483000 ≤ goal) (hg2 : goal ≤ 2147483000) (hF : ∀ p, lo ≤ p → p ≤ hi → f_X8_outer 1 (Int32.ofInt p) q r 0 = some (Int32.ofInt (F p))) (hFin : ∀ p, -2139095041 ≤ F p ∧ F p ≤ 2139095040) (hmono : ∀ p p', lo ≤ p → p ≤ p' → p' ≤ hi → (F p ≤ goal) → (F p' ≤ goal)) :
    ∀ (k n : Nat) (a b : Int), lo ≤ a → a ≤ b → b ≤ hi + 1 → (∀ p, lo ≤ p → p < a → ¬ (F p ≤ goal)) → (∀ p, b ≤ p → p ≤ hi → F p ≤ goal) → b - a < 2 ^ k → k < n →
    ∃ x, f_X8_firstFalling_L10 N n q r (Int32.ofInt goal) (Int64.ofInt a) (Int64.ofInt b) = some (Int64.ofInt x) ∧ isFirst (fun p => F p ≤ goal) lo hi x := by
  have hlo' := hlo
  have hhi' := hhi
  unfold isP at hlo' hhi'
  intro k
  induction k with
  | zero =>
    intro n a b h1 h2 h3 h4 h5 hw hn
    obtain ⟨n', rfl⟩ : ∃ n', n = n' + 1 := ⟨n - 1, by omega⟩
    have hab : a = b := by
      have : (2 : Int) ^ 0 = 1 := rfl
      omega
    show ∃ x, f_X8_firstFalling_C10 N _ _ _ _ _ _ = _ ∧ _
    unfold f_X8_firstFalling_C10
    rw [if_pos ((lc_geI (by omega) (by omega) (by omega) (by omega)).mpr (by omega))]
    exact ⟨a, rfl, h1, by omega, h4, fun p p1 p2 => h5 p (by omega) p2⟩
  | succ k ih =>
    intro n a b h1 h2 h3 h4 h5 hw hn
    obtain ⟨n', rfl⟩ : ∃ n', n = n' + 1 := ⟨n - 1, by omega⟩
    have hge := lc_geI (a := a) (b := b) (by omega) (by omega) (by omega) (by omega)
    show ∃ x, f_X8_firstFalling_C10 N _ _ _ _ _ _ = _ ∧ _
    unfold f_X8_firstFalling_C10
    by_cases hba : b ≤ a
    · rw [if_pos (hge.mpr hba)]
      exact ⟨a, rfl, h1, by omega, h4, fun p p1 p2 => h5 p (by omega) p2⟩
    · rw [if_neg (fun x => hba (hge.mp x)), ← Int64.ofInt_add, y_half (by omega) (by omega)]
      simp only [o_b1]
      rw [jI_32, hF ((a + b) / 2) (by omega) (by omega)]
      simp only [f_X8_firstFalling_B48, f_X8_firstFalling_B64, f_X8_firstFalling_B78]
      have hb := hFin ((a + b) / 2)
      have hiff : (Int32.ofInt goal < Int32.ofInt (F ((a + b) / 2))) ↔ goal < F ((a + b) / 2) := iI_lt (by omega) (by omega) (by omega) (by omega)
      rw [p33] at hw
      by_cases hc : goal < F ((a + b) / 2)
      · rw [if_pos (hiff.mpr hc), if_pos trivial, if_pos trivial]
        have e1 : Int64.ofInt ((a + b) / 2) + 1 = Int64.ofInt ((a + b) / 2 + 1) := (Int64.ofInt_add _ 1).symm
        rw [e1]
        refine ih n' ((a + b) / 2 + 1) b (by omega) (by omega) h3 (fun p p1 p2 x => ?_) h5 (by omega) (by omega)
        have := hmono p ((a + b) / 2) p1 (by omega) (by omega) x
        omega
      · rw [if_neg (fun x => hc (hiff.mp x)), if_neg (by decide), if_neg (by decide)]
        exact ih n' a ((a + b) / 2) h1 (by omega) (by omega) h4 (fun p p1 p2 => hmono ((a + b) / 2) p (by omega) p1 p2 (by omega)) (by omega) (by omega)
theorem y_firstFalling {N : Nat} {q r : Int32} {F : Int → Int} {goal lo hi : Int} (hN : 40 ≤ N) (hlo : isP lo) (hhi : isP hi) (hle : lo ≤ hi) (hg1 : -2147483000 ≤ goal) (hg2 : goal ≤ 2147483000) (hF : ∀ p, lo ≤ p → p ≤ hi → f_X8_outer 1 (Int32.ofInt p) q r 0 = some (Int32.ofInt (F p))) (hFin : ∀ p, -2139095041 ≤ F p ∧ F p ≤ 2139095040) (hmono : ∀ p p', lo ≤ p → p ≤ p' → p' ≤ hi → (F p ≤ goal) → (F p' ≤ goal)) :
    ∃ x, f_X8_firstFalling N (Int32.ofInt lo) (Int32.ofInt hi) q r (Int32.ofInt goal) = some (Int64.ofInt x) ∧ isFirst (fun p => F p ≤ goal) lo hi x := by
  have hlo' := hlo
  have hhi' := hhi
  unfold isP at hlo' hhi'
  unfold f_X8_firstFalling
  simp only [o_nm]
  rw [iI_64 (by omega) (by omega), iI_64 (by omega) (by omega)]
  have e1 : Int64.ofInt hi + 1 = Int64.ofInt (hi + 1) := (Int64.ofInt_add _ 1).symm
  rw [e1]
  refine y_firstFallingL hlo hhi hg1 hg2 hF hFin hmono 33 N lo (hi + 1) (by omega) (by omega) (by omega) (fun p p1 p2 => by omega) (fun p p1 p2 => by omega) (by
    have : (2 : Int) ^ 33 = 8589934592 := by decide
    omega) (by omega)
/-! what the reference's 'outer' comes to -/
theorem y_reck0 {p q : Int} (hp : isP p) (hq : isP q) : f_X8_reckoned 0 (Int32.ofInt p) (Int32.ofInt q) = some (Int32.ofInt (pSum p q)) := by
  unfold f_X8_reckoned
  rw [if_pos rfl, y_sum hp hq]
  rfl
theorem y_reck1 {p q : Int} (hp : isP p) (hq : isP q) : f_X8_reckoned 1 (Int32.ofInt p) (Int32.ofInt q) = some (Int32.ofInt (pMul p q)) := by
  unfold f_X8_reckoned
  rw [if_neg (by decide), y_product hp hq]
  rfl
theorem y_outer {kd p q r : Int32} {x y : Int} (h1 : f_X8_reckoned kd p q = some (Int32.ofInt x)) (h2 : f_X8_reckoned kd p r = some (Int32.ofInt y)) (hx : -2139095041 ≤ x ∧ x ≤ 2139095040) (hy : -2139095041 ≤ y ∧ y ≤ 2139095040) :
    f_X8_outer kd p q r 1 = some (Int32.ofInt (max x y)) ∧ f_X8_outer kd p q r 0 = some (Int32.ofInt (min x y)) := by
  unfold f_X8_outer f_X8_outer_B30
  rw [h1, h2]
  simp only [o_b1]
  have hiff : (Int32.ofInt x ≤ Int32.ofInt y) ↔ x ≤ y := iI_le (by omega) (by omega) (by omega) (by omega)
  by_cases h : x ≤ y
  · rw [if_pos (hiff.mpr h), if_pos (hiff.mpr h), if_neg (by decide), if_pos trivial, Int.max_eq_right h, Int.min_eq_left h]
    exact ⟨rfl, rfl⟩
  · rw [if_neg (fun q => h (hiff.mp q)), if_neg (fun q => h (hiff.mp q)), if_pos trivial, if_neg (by decide), Int.max_eq_left (by omega), Int.min_eq_right (by omega)]
    exact ⟨rfl, rfl⟩
theorem y_outer_sum {p q : Int} (hp : isP p) (hq : isP q) : f_X8_outer 0 (Int32.ofInt p) (Int32.ofInt q) (Int32.ofInt q) 1 = some (Int32.ofInt (pSum p q)) ∧ f_X8_outer 0 (Int32.ofInt p) (Int32.ofInt q) (Int32.ofInt q) 0 = some (Int32.ofInt (pSum p q)) := by
  have h := y_outer (y_reck0 hp hq) (y_reck0 hp hq) (pSum_in p q) (pSum_in p q)
  rw [Int.max_self, Int.min_self] at h
  exact h
/-- by a part [q, r] with sign bit 0 -/
theorem pG_max {p q r : Int} (hq : ¬ q < 0) (hqr : q ≤ r) : max (pMul p q) (pMul p r) = pG q r p := by
  unfold pG
  by_cases h : p < 0
  · rw [if_pos h]
    have := pMul_down hq hqr h
    omega
  · rw [if_neg h]
    have := pMul_up hq hqr h
    omega
theorem pG_min {p q r : Int} (hq : ¬ q < 0) (hqr : q ≤ r) : min (pMul p q) (pMul p r) = pG r q p := by
  unfold pG
  by_cases h : p < 0
  · rw [if_pos h]
    have := pMul_down hq hqr h
    omega
  · rw [if_neg h]
    have := pMul_up hq hqr h
    omega
theorem y_outer_pos {p q r : Int} (hp : isP p) (hq : isP q) (hr : isP r) (h0 : ¬ q < 0) (hqr : q ≤ r) : f_X8_outer 1 (Int32.ofInt p) (Int32.ofInt q) (Int32.ofInt r) 1 = some (Int32.ofInt (pG q r p)) ∧ f_X8_outer 1 (Int32.ofInt p) (Int32.ofInt q) (Int32.ofInt r) 0 = some (Int32.ofInt (pG r q p)) := by
  have h := y_outer (y_reck1 hp hq) (y_reck1 hp hr) (pMul_in p q) (pMul_in p r)
  rw [pG_max h0 hqr, pG_min h0 hqr] at h
  exact h
/-- by a part [q, r] with sign bit 1: turned -/
theorem y_outer_neg {p q r : Int} (hp : isP p) (hq : isP q) (hr : isP r) (h0 : r < 0) (hqr : q ≤ r) : f_X8_outer 1 (Int32.ofInt p) (Int32.ofInt q) (Int32.ofInt r) 1 = some (Int32.ofInt (-1 - pG (-1 - q) (-1 - r) p)) ∧ f_X8_outer 1 (Int32.ofInt p) (Int32.ofInt q) (Int32.ofInt r) 0 = some (Int32.ofInt (-1 - pG (-1 - r) (-1 - q) p)) := by
  have h := y_outer (y_reck1 hp hq) (y_reck1 hp hr) (pMul_in p q) (pMul_in p r)
  have e1 : pMul p q = -1 - pMul p (-1 - q) := by
    have := pMul_turn p (-1 - q)
    rw [show -1 - (-1 - q) = q by omega] at this
    exact this
  have e2 : pMul p r = -1 - pMul p (-1 - r) := by
    have := pMul_turn p (-1 - r)
    rw [show -1 - (-1 - r) = r by omega] at this
    exact this
  have hm1 := pG_max (p := p) (q := -1 - r) (r := -1 - q) (by omega) (by omega)
  have hm2 := pG_min (p := p) (q := -1 - r) (r := -1 - q) (by omega) (by omega)
  have f1 : max (pMul p q) (pMul p r) = -1 - pG (-1 - q) (-1 - r) p := by
    rw [← hm2, e1, e2]
    omega
  have f2 : min (pMul p q) (pMul p r) = -1 - pG (-1 - r) (-1 - q) p := by
    rw [← hm1, e1, e2]
    omega
  rw [f1, f2] at h
  exact h
