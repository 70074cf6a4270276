/-! ===== the text: blanks, numbers, orders ===== -/
def pkv (tn : Nat) (tb : Nat → Int32) (a : Nat) : Int32 := if a < tn then tb a else -1
def isfig (x : Int32) : Prop := 48 ≤ x.toInt ∧ x.toInt ≤ 57
def nums (c : Int32) : Nat := if c = 117 then 2 else if c = 107 then 4 else if c = 99 then 0 else 1
section text
variable {N tn : Nat} {tb : Nat → Int32}
theorem pkv_in {a : Nat} (h : a < tn) : pkv tn tb a = tb a := if_pos h
theorem pkv_out {a : Nat} (h : ¬ a < tn) : pkv tn tb a = -1 := if_neg h
theorem t_le {a : Nat} (ha : a ≤ 120) (h120 : tn ≤ 120) : (nI tn ≤ nI a) ↔ tn ≤ a := nI_leI (by omega) (by omega)
theorem skip_loop (h120 : tn ≤ 120) : ∀ (j a F : Nat), a + j = tn → j < F → ∃ a', a ≤ a' ∧ a' ≤ tn ∧ f_X6_skipBlanks_L0 N (nI tn) tb F (nI a) = some (nI a') ∧ f_X8_here_L0 N (nI tn) tb F (nI a) = some (pkv tn tb a', nI a') ∧ (a' < tn → ¬ tb a' = 32) := by
  intro j
  induction j with
  | zero =>
    intro a F ha hF
    obtain ⟨F', rfl⟩ : ∃ F', F = F' + 1 := ⟨F - 1, by omega⟩
    refine ⟨a, Nat.le_refl _, by omega, ?_, ?_, fun h => absurd h (by omega)⟩
    · rw [show f_X6_skipBlanks_L0 N (nI tn) tb (F' + 1) = f_X6_skipBlanks_C0 N (nI tn) tb (f_X6_skipBlanks_L0 N (nI tn) tb F') from rfl]
      unfold f_X6_skipBlanks_C0
      rw [if_pos ((t_le (by omega) h120).mpr (by omega))]
    · rw [show f_X8_here_L0 N (nI tn) tb (F' + 1) = f_X8_here_C0 N (nI tn) tb (f_X8_here_L0 N (nI tn) tb F') from rfl]
      unfold f_X8_here_C0 f_X8_here_B38
      rw [if_pos ((t_le (by omega) h120).mpr (by omega)), if_pos ((t_le (by omega) h120).mpr (by omega)), pkv_out (by omega)]
  | succ j ih =>
    intro a F ha hF
    obtain ⟨F', rfl⟩ : ∃ F', F = F' + 1 := ⟨F - 1, by omega⟩
    have hlt : ¬ nI tn ≤ nI a := fun q => by
      have := (t_le (tn := tn) (a := a) (by omega) h120).mp q
      omega
    rw [show f_X6_skipBlanks_L0 N (nI tn) tb (F' + 1) = f_X6_skipBlanks_C0 N (nI tn) tb (f_X6_skipBlanks_L0 N (nI tn) tb F') from rfl, show f_X8_here_L0 N (nI tn) tb (F' + 1) = f_X8_here_C0 N (nI tn) tb (f_X8_here_L0 N (nI tn) tb F') from rfl]
    unfold f_X6_skipBlanks_C0 f_X8_here_C0 f_X8_here_B38
    rw [if_neg hlt, if_neg hlt, o_inN (by omega) (by decide), o_inN (by omega) (by decide), nI_clamp (by omega)]
    by_cases g : tb a = 32
    · obtain ⟨a', h1, h2, h3, h4, h5⟩ := ih (a + 1) F' (by omega) (by omega)
      refine ⟨a', by omega, h2, ?_, ?_, h5⟩
      · rw [if_pos g, nI_1]
        exact h3
      · rw [if_pos g, nI_1]
        exact h4
    · refine ⟨a, Nat.le_refl _, by omega, ?_, ?_, fun _ => g⟩
      · rw [if_neg g]
      · rw [if_neg g, if_neg hlt, o_inN (by omega) (by decide), pkv_in (by omega)]
theorem skip_self (h120 : tn ≤ 120) {a : Nat} (ha : a ≤ tn) (h : a < tn → ¬ tb a = 32) (hN : 200 ≤ N) : f_X6_skipBlanks N (nI tn) tb (nI a) = some (nI a) ∧ f_X8_here N (nI tn) tb (nI a) = some (pkv tn tb a, nI a) := by
  obtain ⟨F', rfl⟩ : ∃ F', N = F' + 1 := ⟨N - 1, by omega⟩
  unfold f_X6_skipBlanks f_X8_here
  rw [show f_X6_skipBlanks_L0 (F' + 1) (nI tn) tb (F' + 1) = f_X6_skipBlanks_C0 (F' + 1) (nI tn) tb (f_X6_skipBlanks_L0 (F' + 1) (nI tn) tb F') from rfl, show f_X8_here_L0 (F' + 1) (nI tn) tb (F' + 1) = f_X8_here_C0 (F' + 1) (nI tn) tb (f_X8_here_L0 (F' + 1) (nI tn) tb F') from rfl]
  unfold f_X6_skipBlanks_C0 f_X8_here_C0 f_X8_here_B38
  by_cases g : a < tn
  · have hlt : ¬ nI tn ≤ nI a := fun q => by
      have := (t_le (tn := tn) (a := a) (by omega) h120).mp q
      omega
    rw [if_neg hlt, if_neg hlt, if_neg hlt, o_inN (by omega) (by decide), o_inN (by omega) (by decide), o_inN (by omega) (by decide), nI_clamp (by omega), if_neg (h g), if_neg (h g), pkv_in g]
    exact ⟨rfl, rfl⟩
  · have hle : nI tn ≤ nI a := (t_le (by omega) h120).mpr (by omega)
    rw [if_pos hle, if_pos hle, if_pos hle, pkv_out g]
    exact ⟨rfl, rfl⟩
/-- blanks gone by both -/
theorem skip_both (h120 : tn ≤ 120) (hN : 200 ≤ N) {a : Nat} (ha : a ≤ tn) : ∃ a', a ≤ a' ∧ a' ≤ tn ∧ f_X6_skipBlanks N (nI tn) tb (nI a) = some (nI a') ∧ f_X8_here N (nI tn) tb (nI a) = some (pkv tn tb a', nI a') ∧ f_X8_here N (nI tn) tb (nI a') = some (pkv tn tb a', nI a') := by
  obtain ⟨a', h1, h2, h3, h4, h5⟩ := skip_loop (N := N) (tb := tb) h120 (tn - a) a N (by omega) (by omega)
  exact ⟨a', h1, h2, h3, h4, (skip_self h120 h2 h5 hN).2⟩
theorem peek_at (h120 : tn ≤ 120) {a : Nat} (ha : a ≤ tn) : f_X6_peek (nI tn) (nI a) tb = some (pkv tn tb a) := by
  unfold f_X6_peek
  by_cases g : a < tn
  · rw [if_neg (fun q => by have := (t_le (tn := tn) (a := a) (by omega) h120).mp q; omega), o_inN (by omega) (by decide), nI_clamp (by omega), pkv_in g]
  · rw [if_pos ((t_le (by omega) h120).mpr (by omega)), pkv_out g]
theorem fig_c (x : Int32) : ∃ b : Bool, f_X6_isFigure x = some (bI b) ∧ (b = true ↔ isfig x) := by
  refine ⟨decide (¬ x < 48 ∧ ¬ 57 < x), ?_, ?_⟩
  · unfold f_X6_isFigure
    exact bI_2 _ _
  · rw [decide_eq_true_iff, i_lt (c := 48) (C := 48) rfl, i_gt (c := 57) (C := 57) rfl]
    unfold isfig
    omega
theorem fig_r (h120 : tn ≤ 120) {a : Nat} (ha : a ≤ tn) : ∃ b : Bool, f_X8_isFigure (nI tn) (nI a) tb = some (bI b) ∧ (b = true ↔ isfig (pkv tn tb a)) := by
  unfold f_X8_isFigure
  by_cases g : a < tn
  · refine ⟨decide (48 ≤ (tb a).toInt ∧ (tb a).toInt ≤ 57), ?_, ?_⟩
    · rw [if_neg (fun q => by have := (t_le (tn := tn) (a := a) (by omega) h120).mp q; omega), o_inN (by omega) (by decide), nI_clamp (by omega), y_in (A := 48) (B := 57) rfl rfl, o_b1_some]
      by_cases g2 : 48 ≤ (tb a).toInt ∧ (tb a).toInt ≤ 57
      · rw [decide_eq_true g2, if_neg bI_t]
        rfl
      · rw [decide_eq_false g2, if_pos bI_f]
        rfl
    · rw [pkv_in g]
      exact decide_eq_true_iff
  · refine ⟨false, ?_, ?_⟩
    · rw [if_pos ((t_le (by omega) h120).mpr (by omega))]
      rfl
    · rw [pkv_out g]
      exact ⟨fun q => (by cases q), fun q => absurd q.1 (by decide)⟩
theorem fig_lt {a : Nat} (h : isfig (pkv tn tb a)) : a < tn := by
  by_cases g : a < tn
  · exact g
  · rw [pkv_out g] at h
    exact absurd h.1 (by decide)
theorem num_exit (h120 : tn ≤ 120) {a f : Nat} {x3 v : Int32} (ha : a ≤ tn) (hf : f ≤ 9) : ∃ r v' : Int32, (r = 0 ∨ r = 1) ∧
    (∀ (number : Nat → Int32) (slot : Nat), slot < 240 → f_X6_readNumber_B87 N (nI tn) tb (nI a) number (nI slot) x3 v (nI f) = some (r, nI a, upd number slot v')) ∧
    (∀ (numbers : Nat → Int32) (to : Nat), to < 4 → f_X8_takes_B97 N (nI tn) tb (nI a) numbers (nI to) x3 (nI f) v = some (r, nI a, upd numbers to v')) := by
  obtain ⟨b1, c1, c2⟩ := fig_c (pkv tn tb a)
  obtain ⟨b2, d1, d2⟩ := fig_r (tb := tb) h120 ha
  have hbb : b1 = b2 := Bool.eq_iff_iff.mpr (c2.trans d2.symm)
  subst hbb
  have i0 : (nI f ≤ (0 : Int32)) ↔ f ≤ 0 := nI_leI (b := 0) (by omega) (by decide)
  refine ⟨if f ≤ 0 then 0 else if b1 = true then 0 else 1, if x3 = 0 then v else -v, ?_, fun number slot hs => ?_, fun numbers to ht => ?_⟩
  · by_cases g : f ≤ 0
    · rw [if_pos g]
      exact Or.inl rfl
    · rw [if_neg g]
      cases b1
      · exact Or.inr rfl
      · exact Or.inl rfl
  · have h104 : ∀ w : Int32, f_X6_readNumber_B104 N (nI tn) tb (nI a) number (nI f) (nI slot) w = some (if f ≤ 0 then 0 else if b1 = true then 0 else 1, nI a, upd number slot w) := fun w => by
      unfold f_X6_readNumber_B104
      rw [o_inN hs (by decide), nI_clamp (by omega)]
      by_cases g : f ≤ 0
      · rw [if_pos (i0.mpr g), if_pos g]
      · rw [if_neg (fun q => g (i0.mp q)), if_neg g, peek_at h120 ha, o_b1_some, c1, o_b1_some]
        cases b1
        · rw [if_pos bI_f]
          rfl
        · rw [if_neg bI_t]
          rfl
    unfold f_X6_readNumber_B87
    rw [h104, h104]
    by_cases g : x3 = 0
    · rw [if_pos g, if_pos g]
    · rw [if_neg g, if_neg g]
  · have h115 : ∀ w : Int32, f_X8_takes_B115 N (nI tn) tb (nI a) numbers (nI f) (nI to) w = some (if f ≤ 0 then 0 else if b1 = true then 0 else 1, nI a, upd numbers to w) := fun w => by
      unfold f_X8_takes_B115
      rw [o_inN ht (by decide), nI_clamp (by omega)]
      by_cases g : f ≤ 0
      · rw [if_pos (i0.mpr g), if_pos g]
      · rw [if_neg (fun q => g (i0.mp q)), if_neg g, d1, o_b1_some]
        cases b1
        · rw [if_pos bI_f]
          rfl
        · rw [if_neg bI_t]
          rfl
    unfold f_X8_takes_B97
    rw [h115, h115]
    by_cases g : x3 = 0
    · rw [if_pos g, if_pos g]
    · rw [if_neg g, if_neg g]
theorem num_loop (h120 : tn ≤ 120) {x3 : Int32} : ∀ (j f a F : Nat) (v : Int32), f + j = 9 → j < F → a ≤ tn → ∃ (r v' : Int32) (a' : Nat), a ≤ a' ∧ a' ≤ tn ∧ (r = 0 ∨ r = 1) ∧
    (∀ (number : Nat → Int32) (slot : Nat), slot < 240 → f_X6_readNumber_L39 N (nI tn) tb F (nI a) number (nI slot) x3 v (nI f) = some (r, nI a', upd number slot v')) ∧
    (∀ (numbers : Nat → Int32) (to : Nat), to < 4 → f_X8_takes_L47 N (nI tn) tb F (nI a) numbers (nI to) x3 (nI f) v = some (r, nI a', upd numbers to v')) := by
  intro j
  induction j with
  | zero =>
    intro f a F v hf hF ha
    obtain ⟨F', rfl⟩ : ∃ F', F = F' + 1 := ⟨F - 1, by omega⟩
    obtain ⟨r, v', h1, h2, h3⟩ := num_exit (N := N) (tb := tb) (x3 := x3) (v := v) (f := f) h120 ha (by omega)
    obtain ⟨b2, d1, d2⟩ := fig_r (tb := tb) h120 ha
    refine ⟨r, v', a, Nat.le_refl _, ha, h1, fun number slot hs => ?_, fun numbers to ht => ?_⟩
    · rw [show f_X6_readNumber_L39 N (nI tn) tb (F' + 1) = f_X6_readNumber_C39 N (nI tn) tb (f_X6_readNumber_L39 N (nI tn) tb F') from rfl]
      unfold f_X6_readNumber_C39
      rw [if_pos (show (9 : Int32) ≤ nI f from (nI_leI (a := 9) (by decide) (by omega)).mpr (by omega))]
      exact h2 number slot hs
    · rw [show f_X8_takes_L47 N (nI tn) tb (F' + 1) = f_X8_takes_C47 N (nI tn) tb (f_X8_takes_L47 N (nI tn) tb F') from rfl]
      unfold f_X8_takes_C47
      rw [d1, o_b1_some, if_pos (show (9 : Int32) ≤ nI f from (nI_leI (a := 9) (by decide) (by omega)).mpr (by omega)), h3 numbers to ht]
      split <;> rfl
  | succ j ih =>
    intro f a F v hf hF ha
    obtain ⟨F', rfl⟩ : ∃ F', F = F' + 1 := ⟨F - 1, by omega⟩
    have h9 : ¬ (9 : Int32) ≤ nI f := fun q => by
      have := (nI_leI (a := 9) (b := f) (by decide) (by omega)).mp q
      omega
    obtain ⟨b1, c1, c2⟩ := fig_c (pkv tn tb a)
    obtain ⟨b2, d1, d2⟩ := fig_r (tb := tb) h120 ha
    have hbb : b1 = b2 := Bool.eq_iff_iff.mpr (c2.trans d2.symm)
    subst hbb
    have cl : ∀ (number : Nat → Int32) (slot : Nat), f_X6_readNumber_L39 N (nI tn) tb (F' + 1) (nI a) number (nI slot) x3 v (nI f) = if bI b1 = 0 then f_X6_readNumber_B87 N (nI tn) tb (nI a) number (nI slot) x3 v (nI f) else f_X6_readNumber_L39 N (nI tn) tb F' (nI a + 1) number (nI slot) x3 ((v * 10 + pkv tn tb a) - 48) (nI f + 1) := fun number slot => by
      rw [show f_X6_readNumber_L39 N (nI tn) tb (F' + 1) = f_X6_readNumber_C39 N (nI tn) tb (f_X6_readNumber_L39 N (nI tn) tb F') from rfl]
      unfold f_X6_readNumber_C39 o_nm
      rw [if_neg h9, peek_at h120 ha, o_b1_some, c1, o_b1_some, o_b1_some]
    have rf : ∀ (numbers : Nat → Int32) (to : Nat), f_X8_takes_L47 N (nI tn) tb (F' + 1) (nI a) numbers (nI to) x3 (nI f) v = if bI b1 = 0 then f_X8_takes_B97 N (nI tn) tb (nI a) numbers (nI to) x3 (nI f) v else o_in (nI a) 120 (f_X8_takes_L47 N (nI tn) tb F' (nI a + 1) numbers (nI to) x3 (nI f + 1) (((10 * v) + (tb (nI a).toNatClampNeg)) - 48)) := fun numbers to => by
      rw [show f_X8_takes_L47 N (nI tn) tb (F' + 1) = f_X8_takes_C47 N (nI tn) tb (f_X8_takes_L47 N (nI tn) tb F') from rfl]
      unfold f_X8_takes_C47 o_nm
      rw [if_neg h9, d1, o_b1_some]
    by_cases g : b1 = true
    · have hlt := fig_lt (c2.mp g)
      obtain ⟨r, v', a', e1, e2, e3, e4, e5⟩ := ih (f + 1) (a + 1) F' ((v * 10 + tb a) - 48) (by omega) (by omega) (by omega)
      refine ⟨r, v', a', by omega, e2, e3, fun number slot hs => ?_, fun numbers to ht => ?_⟩
      · rw [cl, g, if_neg bI_t, pkv_in hlt, nI_1, nI_1]
        exact e4 number slot hs
      · rw [rf, g, if_neg bI_t, o_inN (by omega) (by decide), nI_clamp (by omega), nI_1, nI_1, Int32.mul_comm 10 v]
        exact e5 numbers to ht
    · have g' : b1 = false := by simpa using g
      obtain ⟨r, v', h1, h2, h3⟩ := num_exit (N := N) (tb := tb) (x3 := x3) (v := v) (f := f) h120 ha (by omega)
      refine ⟨r, v', a, Nat.le_refl _, ha, h1, fun number slot hs => ?_, fun numbers to ht => ?_⟩
      · rw [cl, g', if_pos bI_f]
        exact h2 number slot hs
      · rw [rf, g', if_pos bI_f]
        exact h3 numbers to ht
/-- a number read by both -/
theorem num_both (h120 : tn ≤ 120) (hN : 200 ≤ N) {a : Nat} (ha : a ≤ tn) {sg : Int32} (hsg : sg = 0 ∨ sg = 1) : ∃ (a1 a2 : Nat) (r v : Int32), a ≤ a1 ∧ a1 ≤ a2 ∧ a2 ≤ tn ∧ (r = 0 ∨ r = 1) ∧ f_X6_skipBlanks N (nI tn) tb (nI a) = some (nI a1) ∧
    (∀ (number : Nat → Int32) (slot : Nat), slot < 240 → f_X6_readNumber N (nI tn) tb (nI a1) number (nI slot) sg = some (r, nI a2, upd number slot v)) ∧
    (∀ (numbers : Nat → Int32) (to : Nat), to < 4 → f_X8_takes N (nI tn) tb (nI a) numbers (nI to) sg = some (r, nI a2, upd numbers to v)) := by
  obtain ⟨a1, s1, s2, s3, s4, s5⟩ := skip_both (N := N) (tb := tb) h120 hN ha
  have plain : (sg = 0 ∨ ¬ pkv tn tb a1 = 45) → ∃ (a2 : Nat) (r v : Int32), a1 ≤ a2 ∧ a2 ≤ tn ∧ (r = 0 ∨ r = 1) ∧
    (∀ (number : Nat → Int32) (slot : Nat), slot < 240 → f_X6_readNumber N (nI tn) tb (nI a1) number (nI slot) sg = some (r, nI a2, upd number slot v)) ∧
    (∀ (numbers : Nat → Int32) (to : Nat), to < 4 → f_X8_takes N (nI tn) tb (nI a) numbers (nI to) sg = some (r, nI a2, upd numbers to v)) := fun hp => by
    obtain ⟨r, v', a', e1, e2, e3, e4, e5⟩ := num_loop (N := N) (tb := tb) (x3 := 0) h120 9 0 a1 N 0 (by omega) (by omega) s2
    refine ⟨a', r, v', e1, e2, e3, fun number slot hs => ?_, fun numbers to ht => ?_⟩
    · unfold f_X6_readNumber f_X6_readNumber_B17 f_X6_readNumber_B18 f_X6_readNumber_B33
      rw [peek_at h120 s2, o_b1_some, if_pos rfl]
      rcases hp with hp | hp
      · rw [if_pos hp]
        exact e4 number slot hs
      · rw [if_neg hp]
        split
        · exact e4 number slot hs
        · exact e4 number slot hs
    · unfold f_X8_takes f_X8_takes_B19 f_X8_takes_B20 f_X8_takes_B37
      rw [s4, o_b2_some, if_pos rfl, Int32.add_zero]
      rcases hp with hp | hp
      · rw [if_pos hp]
        split
        · exact e5 numbers to ht
        · exact e5 numbers to ht
      · rw [if_neg hp]
        exact e5 numbers to ht
  by_cases g : sg = 0 ∨ ¬ pkv tn tb a1 = 45
  · obtain ⟨a2, r, v, e1, e2, e3, e4, e5⟩ := plain g
    exact ⟨a1, a2, r, v, s1, e1, e2, e3, s3, e4, e5⟩
  · have g1 : sg = 1 := by
      rcases hsg with h | h
      · exact absurd (Or.inl h) g
      · exact h
    have g2 : pkv tn tb a1 = 45 := Classical.byContradiction fun q => g (Or.inr q)
    have hlt : a1 < tn := by
      by_cases q : a1 < tn
      · exact q
      · rw [pkv_out q] at g2
        exact absurd g2 (by decide)
    obtain ⟨r, v', a', e1, e2, e3, e4, e5⟩ := num_loop (N := N) (tb := tb) (x3 := 1) h120 9 0 (a1 + 1) N 0 (by omega) (by omega) (by omega)
    refine ⟨a1, a', r, v', s1, by omega, e2, e3, s3, fun number slot hs => ?_, fun numbers to ht => ?_⟩
    · unfold f_X6_readNumber f_X6_readNumber_B18 f_X6_readNumber_B33
      rw [peek_at h120 s2, o_b1_some, g1, if_neg (by decide), if_pos g2, if_neg (by decide), nI_1]
      exact e4 number slot hs
    · unfold f_X8_takes f_X8_takes_B20 f_X8_takes_B37
      rw [s4, o_b2_some, if_pos g2, g1, if_neg (by decide), if_neg (by decide), nI_1]
      exact e5 numbers to ht
end text
