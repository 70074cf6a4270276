/-! ===== states kept and given back ===== -/
def gC (S : mS) (M : g_MV) : Prop := mC S M.1 M.2.1 M.2.2.1 M.2.2.2.1 M.2.2.2.2.1 M.2.2.2.2.2.1 M.2.2.2.2.2.2.1 M.2.2.2.2.2.2.2
def hOK (h : Nat) (Hs : Nat → mS) : Prop := h ≤ 5 ∧ ∀ i, i < h → mOK (Hs i)
def hsC (h : Nat) (Hs : Nat → mS) (count next : Int32) (ring : Nat → g_MV) : Prop := count = nI h ∧ ∃ nx : Nat, nx < 5 ∧ next = nI nx ∧ ∀ i, i < h → gC (Hs i) (ring ((nx + 5 - h + i) % 5))
def hsR (h : Nat) (Hs : Nat → mS) (states : Int32) (past : Nat → Int32) : Prop := states = nI h ∧ ∀ i, i < h → mR (Hs i) (fun x => past (38 * i + x))
def kH (h : Nat) (Hs : Nat → mS) (S : mS) : Nat → mS := fun i => if h = 5 then (if i < 4 then Hs (i + 1) else S) else (if i = h then S else Hs i)
def kh (h : Nat) : Nat := if h = 5 then 5 else h + 1
theorem kOK {h : Nat} {Hs : Nat → mS} {S : mS} (hH : hOK h Hs) (hS : mOK S) : hOK (kh h) (kH h Hs S) := by
  obtain ⟨h5, hi⟩ := hH
  unfold kh kH
  by_cases g : h = 5
  · rw [if_pos g]
    refine ⟨by omega, fun i hi' => ?_⟩
    dsimp only
    rw [if_pos g]
    by_cases g4 : i < 4
    · rw [if_pos g4]
      exact hi (i + 1) (by omega)
    · rw [if_neg g4]
      exact hS
  · rw [if_neg g]
    refine ⟨by omega, fun i hi' => ?_⟩
    dsimp only
    rw [if_neg g]
    by_cases g4 : i = h
    · rw [if_pos g4]
      exact hS
    · rw [if_neg g4]
      exact hi i (by omega)
theorem mC_copy {S : mS} {un ru : Int32} {l h kd x y z l' h' kd' x' y' z' : Nat → Int32} (hS : mOK S) (hC : mC S un ru l h kd x y z) : mC S un ru (va_cpy l l' 0 0 6) (va_cpy h h' 0 0 6) (va_cpy kd kd' 0 0 6) (va_cpy x x' 0 0 6) (va_cpy y y' 0 0 6) (va_cpy z z' 0 0 6) := by
  obtain ⟨h1, h2, h3, h4⟩ := hC
  have hn := hS.1
  have hm := hS.2.1
  refine ⟨h1, h2, fun u hu => ?_, fun k hk => ?_⟩
  · rw [pk_cpy_in (by omega) (by omega), pk_cpy_in (by omega) (by omega), show 0 + (u - 0) = u by omega]
    exact h3 u hu
  · rw [pk_cpy_in (by omega) (by omega), pk_cpy_in (by omega) (by omega), pk_cpy_in (by omega) (by omega), pk_cpy_in (by omega) (by omega), show 0 + (k - 0) = k by omega]
    exact h4 k hk
theorem z_copy {un ru un' ru' : Int32} {l h kd x y z l' h' kd' x' y' z' : Nat → Int32} : f_X3_copy un ru l h kd x y z un' ru' l' h' kd' x' y' z' = some (un, ru, va_cpy l l' 0 0 6, va_cpy h h' 0 0 6, va_cpy kd kd' 0 0 6, va_cpy x x' 0 0 6, va_cpy y y' 0 0 6, va_cpy z z' 0 0 6) := by
  have hd : decide (¬ (0 : Int32) < 0 ∧ ¬ (0 : Int32) < 0 ∧ ¬ (6 : Int32) < 0 ∧ (0 : Int32).toNatClampNeg + (6 : Int32).toNatClampNeg ≤ 6 ∧ (0 : Int32).toNatClampNeg + (6 : Int32).toNatClampNeg ≤ 6) = true := by decide
  unfold f_X3_copy
  rw [hd, o_ck_true, o_ck_true, o_ck_true, o_ck_true, o_ck_true, o_ck_true]
  rfl
theorem o_b8_some {A1 A2 A3 A4 A5 A6 A7 A8 β : Type} (a1 : A1) (a2 : A2) (a3 : A3) (a4 : A4) (a5 : A5) (a6 : A6) (a7 : A7) (a8 : A8) (k : A1 → A2 → A3 → A4 → A5 → A6 → A7 → A8 → Option β) : o_b8 (some (a1, a2, a3, a4, a5, a6, a7, a8)) k = k a1 a2 a3 a4 a5 a6 a7 a8 := rfl
/-- the class's ring takes a model -/
theorem z_keep0 {nx : Nat} {un ru count : Int32} {l h kd x y z : Nat → Int32} {ring : Nat → g_MV} (hx : nx < 5) : ∃ M : g_MV, (∀ S, mOK S → mC S un ru l h kd x y z → gC S M) ∧ f_X2_keep un ru l h kd x y z count (nI nx) ring = some (o_min (count + 1) 5, nI ((nx + 1) % 5), va_up ring nx M) := by
  refine ⟨(un, ru, va_cpy l (ring nx).2.2.1 0 0 6, va_cpy h (ring nx).2.2.2.1 0 0 6, va_cpy kd (ring nx).2.2.2.2.1 0 0 6, va_cpy x (ring nx).2.2.2.2.2.1 0 0 6, va_cpy y (ring nx).2.2.2.2.2.2.1 0 0 6, va_cpy z (ring nx).2.2.2.2.2.2.2 0 0 6), fun S hS hC => mC_copy hS hC, ?_⟩
  unfold f_X2_keep
  rw [o_inN (by omega) (by decide), z_copy, z_copy, z_copy, z_copy, z_copy, o_b8_some, o_b8_some, o_b8_some, o_b8_some, o_b8_some]
  rcases (show nx = 0 ∨ nx = 1 ∨ nx = 2 ∨ nx = 3 ∨ nx = 4 by omega) with rfl | rfl | rfl | rfl | rfl
  · rw [if_pos (show nI 0 = (0 : Int32) by decide)]
    rfl
  · rw [if_neg (show ¬ nI 1 = (0 : Int32) by decide), if_pos (show nI 1 = (1 : Int32) by decide)]
    rfl
  · rw [if_neg (show ¬ nI 2 = (0 : Int32) by decide), if_neg (show ¬ nI 2 = (1 : Int32) by decide), if_pos (show nI 2 = (2 : Int32) by decide)]
    rfl
  · rw [if_neg (show ¬ nI 3 = (0 : Int32) by decide), if_neg (show ¬ nI 3 = (1 : Int32) by decide), if_neg (show ¬ nI 3 = (2 : Int32) by decide), if_pos (show nI 3 = (3 : Int32) by decide)]
    rfl
  · rw [if_neg (show ¬ nI 4 = (0 : Int32) by decide), if_neg (show ¬ nI 4 = (1 : Int32) by decide), if_neg (show ¬ nI 4 = (2 : Int32) by decide), if_neg (show ¬ nI 4 = (3 : Int32) by decide), if_pos (show nI 4 = (4 : Int32) by decide)]
    rfl
theorem z_keep {S : mS} {h : Nat} {Hs : Nat → mS} {un ru count next sb : Int32} {l hh kd x y z : Nat → Int32} {ring : Nat → g_MV} (hS : mOK S) (hM : mC S un ru l hh kd x y z) (hH : hOK h Hs) (hc : hsC h Hs count next ring) : ∃ c' n' r', f_X7_keepState un ru l hh kd x y z count next ring sb = some (c', n', r', 0) ∧ hsC (kh h) (kH h Hs S) c' n' r' := by
  obtain ⟨h5, -⟩ := hH
  obtain ⟨hcount, nx, hnx, hnext, hring⟩ := hc
  obtain ⟨M, hMM, heq⟩ := z_keep0 (nx := nx) (un := un) (ru := ru) (count := count) (l := l) (h := hh) (kd := kd) (x := x) (y := y) (z := z) (ring := ring) hnx
  have hg := hMM S hS hM
  refine ⟨nI (kh h), nI ((nx + 1) % 5), va_up ring nx M, ?_, rfl, (nx + 1) % 5, by omega, rfl, fun i hi => ?_⟩
  · unfold f_X7_keepState f_X5_forget
    rw [hnext, heq, o_b3_some, o_b1_some, hcount, nI_1]
    have : o_min (nI (h + 1)) 5 = nI (kh h) := by
      unfold o_min kh
      have i5 : ((5 : Int32) < nI (h + 1)) ↔ 5 < h + 1 := nI_ltI (by decide) (by omega)
      by_cases g : h = 5
      · rw [if_pos (i5.mpr (by omega)), if_pos g]
        rfl
      · rw [if_neg (fun q => by have := i5.mp q; omega), if_neg g]
    rw [this]
  · unfold kh at hi ⊢
    unfold kH va_up
    by_cases g : h = 5
    · rw [if_pos g] at hi ⊢
      rw [if_pos g]
      by_cases g4 : i < 4
      · rw [if_pos g4, if_neg (by omega), show ((nx + 1) % 5 + 5 - 5 + i) % 5 = (nx + 5 - h + (i + 1)) % 5 by omega]
        exact hring (i + 1) (by omega)
      · rw [if_neg g4, if_pos (by omega)]
        exact hg
    · rw [if_neg g] at hi ⊢
      rw [if_neg g]
      by_cases g4 : i = h
      · rw [if_pos g4, if_pos (by omega)]
        exact hg
      · rw [if_neg g4, if_neg (by omega), show ((nx + 1) % 5 + 5 - (h + 1) + i) % 5 = (nx + 5 - h + i) % 5 by omega]
        exact hring i (by omega)
/-! the reference's -/
theorem mR_congr {S : mS} {f g : Nat → Int32} (hS : mOK S) (h : ∀ x, x < 38 → f x = g x) (hR : mR S f) : mR S g := by
  have hn := hS.1
  have hm := hS.2.1
  obtain ⟨h1, h2, h3, h4⟩ := hR
  refine ⟨by rw [← h 0 (by omega)]; exact h1, by rw [← h 13 (by omega)]; exact h2, fun u hu => ?_, fun k hk => ?_⟩
  · rw [← h _ (by omega), ← h _ (by omega)]
    exact h3 u hu
  · rw [← h _ (by omega), ← h _ (by omega), ← h _ (by omega), ← h _ (by omega)]
    exact h4 k hk
theorem keep50 {N s : Nat} {all : Nat → Int32} (hs : s ≤ 4) : ∀ (j k F : Nat) (past : Nat → Int32), k + j = 38 → j < F → ∃ past', (∀ x, x < 38 * s + k → past' x = past x) ∧ (∀ x, k ≤ x → x < 38 → past' (38 * s + x) = all x) ∧ f_X8_keep_L50 N all F (nI s) past (nI k) = some (nI (s + 1), past') := by
  intro j
  induction j with
  | zero =>
    intro k F past hk hF
    obtain ⟨F', rfl⟩ : ∃ F', F = F' + 1 := ⟨F - 1, by omega⟩
    refine ⟨past, fun x _ => rfl, fun x h1 h2 => absurd h1 (by omega), ?_⟩
    rw [show f_X8_keep_L50 N all (F' + 1) = f_X8_keep_C50 N all (f_X8_keep_L50 N all F') from rfl, show k = 38 by omega]
    unfold f_X8_keep_C50
    rw [if_pos (show (38 : Int32) ≤ nI 38 by decide), nI_1]
  | succ j ih =>
    intro k F past hk hF
    obtain ⟨F', rfl⟩ : ∃ F', F = F' + 1 := ⟨F - 1, by omega⟩
    obtain ⟨past', h1, h2, h3⟩ := ih (k + 1) F' (upd past (38 * s + k) (all k)) (by omega) (by omega)
    refine ⟨past', fun x hx => ?_, fun x hx1 hx2 => ?_, ?_⟩
    · rw [h1 x (by omega), pk_un (by omega)]
    · by_cases g : x = k
      · rw [g, h1 _ (by omega), pk_us]
      · exact h2 x (by omega) hx2
    · rw [← h3, show f_X8_keep_L50 N all (F' + 1) = f_X8_keep_C50 N all (f_X8_keep_L50 N all F') from rfl]
      have : ¬ (38 : Int32) ≤ nI k := fun x => by
        have := (nI_leI (a := 38) (b := k) (by decide) (by omega)).mp x
        omega
      have e : (38 : Int32) * nI s + nI k = nI (38 * s + k) := by
        rw [show (38 : Int32) = nI 38 from rfl, pk_mul, nI_add]
      unfold f_X8_keep_C50
      rw [if_neg this, o_inN (by omega) (by decide), e, o_inN (by omega) (by decide), nI_clamp (by omega), nI_clamp (by omega), nI_1]
theorem keep10 {N : Nat} {all : Nat → Int32} {st : Int32} : ∀ (j k F : Nat) (past : Nat → Int32), k + j = 152 → j < F → ∃ past', (∀ x, x < k → past' x = past x) ∧ (∀ x, k ≤ x → x < 152 → past' x = past (x + 38)) ∧ f_X8_keep_L10 N all F st past (nI k) = f_X8_keep_B48 N all (st - 1) past' := by
  intro j
  induction j with
  | zero =>
    intro k F past hk hF
    obtain ⟨F', rfl⟩ : ∃ F', F = F' + 1 := ⟨F - 1, by omega⟩
    refine ⟨past, fun x _ => rfl, fun x h1 h2 => absurd h1 (by omega), ?_⟩
    rw [show f_X8_keep_L10 N all (F' + 1) = f_X8_keep_C10 N all (f_X8_keep_L10 N all F') from rfl, show k = 152 by omega]
    unfold f_X8_keep_C10
    rw [if_pos (show (152 : Int32) ≤ nI 152 by decide)]
  | succ j ih =>
    intro k F past hk hF
    obtain ⟨F', rfl⟩ : ∃ F', F = F' + 1 := ⟨F - 1, by omega⟩
    obtain ⟨past', h1, h2, h3⟩ := ih (k + 1) F' (upd past k (past (k + 38))) (by omega) (by omega)
    refine ⟨past', fun x hx => ?_, fun x hx1 hx2 => ?_, ?_⟩
    · rw [h1 x (by omega), pk_un (by omega)]
    · by_cases g : x = k
      · rw [g, h1 _ (by omega), pk_us]
      · rw [h2 x (by omega) hx2, pk_un (by omega)]
    · rw [← h3, show f_X8_keep_L10 N all (F' + 1) = f_X8_keep_C10 N all (f_X8_keep_L10 N all F') from rfl]
      have : ¬ (152 : Int32) ≤ nI k := fun x => by
        have := (nI_leI (a := 152) (b := k) (by decide) (by omega)).mp x
        omega
      have e : nI k + (38 : Int32) = nI (k + 38) := nI_add k 38
      unfold f_X8_keep_C10
      rw [if_neg this, e, o_inN (by omega) (by decide), o_inN (by omega) (by decide), nI_clamp (by omega), nI_clamp (by omega), nI_1]
theorem y_keep {N : Nat} {S : mS} {h : Nat} {Hs : Nat → mS} {states : Int32} {all past : Nat → Int32} (hN : 200 ≤ N) (hS : mOK S) (hR : mR S all) (hH : hOK h Hs) (hr : hsR h Hs states past) : ∃ s' p', f_X8_keep N all states past = some (s', p') ∧ hsR (kh h) (kH h Hs S) s' p' := by
  obtain ⟨h5, hHs⟩ := hH
  obtain ⟨hst, hpast⟩ := hr
  unfold f_X8_keep kh kH
  have i5 : (nI h = (5 : Int32)) ↔ h = 5 := nI_eq (by omega) (by decide)
  by_cases g : h = 5
  · obtain ⟨p1, -, a2, a3⟩ := keep10 (N := N) (all := all) (st := nI h) 152 0 N past (by omega) (by omega)
    obtain ⟨p2, b1, b2, b3⟩ := keep50 (N := N) (s := 4) (all := all) (by omega) 38 0 N p1 (by omega) (by omega)
    refine ⟨nI 5, p2, ?_, by rw [if_pos g], fun i hi => ?_⟩
    · rw [hst, if_pos (i5.mpr g)]
      refine Eq.trans a3 ?_
      unfold f_X8_keep_B48
      rw [g, show nI 5 - 1 = nI 4 from nI_pred 4]
      exact b3
    · rw [if_pos g] at hi
      dsimp only
      rw [if_pos g]
      by_cases g4 : i < 4
      · rw [if_pos g4]
        refine mR_congr (hHs (i + 1) (by omega)) (fun x hx => ?_) (hpast (i + 1) (by omega))
        show past (38 * (i + 1) + x) = p2 (38 * i + x)
        rw [b1 _ (by omega), a2 _ (by omega) (by omega), show 38 * i + x + 38 = 38 * (i + 1) + x by omega]
      · rw [if_neg g4]
        refine mR_congr hS (fun x hx => ?_) hR
        show all x = p2 (38 * i + x)
        rw [show i = 4 by omega, b2 x (by omega) hx]
  · obtain ⟨p2, b1, b2, b3⟩ := keep50 (N := N) (s := h) (all := all) (by omega) 38 0 N past (by omega) (by omega)
    refine ⟨nI (h + 1), p2, ?_, by rw [if_neg g], fun i hi => ?_⟩
    · rw [hst, if_neg (fun q => g (i5.mp q))]
      unfold f_X8_keep_B48
      exact b3
    · rw [if_neg g] at hi
      dsimp only
      rw [if_neg g]
      by_cases g4 : i = h
      · rw [if_pos g4]
        refine mR_congr hS (fun x hx => ?_) hR
        show all x = p2 (38 * i + x)
        rw [g4, b2 x (by omega) hx]
      · rw [if_neg g4]
        refine mR_congr (hHs i (by omega)) (fun x hx => ?_) (hpast i (by omega))
        show past (38 * i + x) = p2 (38 * i + x)
        rw [b1 _ (by omega)]
/-! and back -/
theorem o_b10_some {A1 A2 A3 A4 A5 A6 A7 A8 A9 A10 β : Type} (a1 : A1) (a2 : A2) (a3 : A3) (a4 : A4) (a5 : A5) (a6 : A6) (a7 : A7) (a8 : A8) (a9 : A9) (a10 : A10) (k : A1 → A2 → A3 → A4 → A5 → A6 → A7 → A8 → A9 → A10 → Option β) : o_b10 (some (a1, a2, a3, a4, a5, a6, a7, a8, a9, a10)) k = k a1 a2 a3 a4 a5 a6 a7 a8 a9 a10 := rfl
theorem z_back {h0 : Nat} {Hs : Nat → mS} {un ru count next : Int32} {l hh kd x y z : Nat → Int32} {ring : Nat → g_MV} (hH : hOK (h0 + 1) Hs) (hc : hsC (h0 + 1) Hs count next ring) : ∃ n' un' ru' l' h' kd' x' y' z', f_X2_giveBack ring count next un ru l hh kd x y z = some (nI h0, n', un', ru', l', h', kd', x', y', z') ∧ mC (Hs h0) un' ru' l' h' kd' x' y' z' ∧ hsC h0 Hs (nI h0) n' ring := by
  obtain ⟨h5, hHs⟩ := hH
  obtain ⟨hcount, nx, hnx, hnext, hring⟩ := hc
  have hg := hring h0 (by omega)
  rw [show (nx + 5 - (h0 + 1) + h0) % 5 = (nx + 4) % 5 by omega] at hg
  have e : (nI nx + 5 - 1) - (nI nx + 5 - 1) / 5 * 5 = nI ((nx + 4) % 5) := by
    rcases (show nx = 0 ∨ nx = 1 ∨ nx = 2 ∨ nx = 3 ∨ nx = 4 by omega) with rfl | rfl | rfl | rfl | rfl <;> decide
  refine ⟨nI ((nx + 4) % 5), (ring ((nx + 4) % 5)).1, (ring ((nx + 4) % 5)).2.1, va_cpy (ring ((nx + 4) % 5)).2.2.1 l 0 0 6, va_cpy (ring ((nx + 4) % 5)).2.2.2.1 hh 0 0 6, va_cpy (ring ((nx + 4) % 5)).2.2.2.2.1 kd 0 0 6, va_cpy (ring ((nx + 4) % 5)).2.2.2.2.2.1 x 0 0 6, va_cpy (ring ((nx + 4) % 5)).2.2.2.2.2.2.1 y 0 0 6, va_cpy (ring ((nx + 4) % 5)).2.2.2.2.2.2.2 z 0 0 6, ?_, mC_copy (hHs h0 (by omega)) hg, rfl, (nx + 4) % 5, by omega, rfl, fun i hi => ?_⟩
  · unfold f_X2_giveBack
    rw [hnext, e, z_copy, z_copy, z_copy, z_copy, z_copy, o_b8_some, o_b8_some, o_b8_some, o_b8_some, o_b8_some, hcount, nI_pred]
    have hm : (nx + 4) % 5 < 5 := by omega
    rw [o_inN (by omega) (by decide)]
    generalize (nx + 4) % 5 = w at hm ⊢
    rcases (show w = 0 ∨ w = 1 ∨ w = 2 ∨ w = 3 ∨ w = 4 by omega) with rfl | rfl | rfl | rfl | rfl
    · rw [if_pos (show nI 0 = (0 : Int32) by decide)]
    · rw [if_neg (show ¬ nI 1 = (0 : Int32) by decide), if_pos (show nI 1 = (1 : Int32) by decide)]
    · rw [if_neg (show ¬ nI 2 = (0 : Int32) by decide), if_neg (show ¬ nI 2 = (1 : Int32) by decide), if_pos (show nI 2 = (2 : Int32) by decide)]
    · rw [if_neg (show ¬ nI 3 = (0 : Int32) by decide), if_neg (show ¬ nI 3 = (1 : Int32) by decide), if_neg (show ¬ nI 3 = (2 : Int32) by decide), if_pos (show nI 3 = (3 : Int32) by decide)]
    · rw [if_neg (show ¬ nI 4 = (0 : Int32) by decide), if_neg (show ¬ nI 4 = (1 : Int32) by decide), if_neg (show ¬ nI 4 = (2 : Int32) by decide), if_neg (show ¬ nI 4 = (3 : Int32) by decide), if_pos (show nI 4 = (4 : Int32) by decide)]
  · rw [show ((nx + 4) % 5 + 5 - h0 + i) % 5 = (nx + 5 - (h0 + 1) + i) % 5 by omega]
    exact hring i (by omega)
theorem back27 {N h0 : Nat} {past rf : Nat → Int32} (hs : h0 ≤ 4) : ∀ (j k F : Nat) (all : Nat → Int32), k + j = 38 → j < F → ∃ all', (∀ x, x < k → all' x = all x) ∧ (∀ x, k ≤ x → x < 38 → all' x = past (38 * h0 + x)) ∧ f_X8_back_L27 N past F (nI h0) all rf (nI k) = some (nI h0, nI h0, all', rf) := by
  intro j
  induction j with
  | zero =>
    intro k F all hk hF
    obtain ⟨F', rfl⟩ : ∃ F', F = F' + 1 := ⟨F - 1, by omega⟩
    refine ⟨all, fun x _ => rfl, fun x h1 h2 => absurd h1 (by omega), ?_⟩
    rw [show f_X8_back_L27 N past (F' + 1) = f_X8_back_C27 N past (f_X8_back_L27 N past F') from rfl, show k = 38 by omega]
    unfold f_X8_back_C27
    rw [if_pos (show (38 : Int32) ≤ nI 38 by decide)]
  | succ j ih =>
    intro k F all hk hF
    obtain ⟨F', rfl⟩ : ∃ F', F = F' + 1 := ⟨F - 1, by omega⟩
    obtain ⟨all', h1, h2, h3⟩ := ih (k + 1) F' (upd all k (past (38 * h0 + k))) (by omega) (by omega)
    refine ⟨all', fun x hx => ?_, fun x hx1 hx2 => ?_, ?_⟩
    · rw [h1 x (by omega), pk_un (by omega)]
    · by_cases g : x = k
      · rw [g, h1 _ (by omega), pk_us]
      · exact h2 x (by omega) hx2
    · rw [← h3, show f_X8_back_L27 N past (F' + 1) = f_X8_back_C27 N past (f_X8_back_L27 N past F') from rfl]
      have : ¬ (38 : Int32) ≤ nI k := fun x => by
        have := (nI_leI (a := 38) (b := k) (by decide) (by omega)).mp x
        omega
      have e : (38 : Int32) * nI h0 + nI k = nI (38 * h0 + k) := by
        rw [show (38 : Int32) = nI 38 from rfl, pk_mul, nI_add]
      unfold f_X8_back_C27
      rw [if_neg this, e, o_inN (by omega) (by decide), o_inN (by omega) (by decide), nI_clamp (by omega), nI_clamp (by omega), nI_1]
theorem y_back {N h0 : Nat} {Hs : Nat → mS} {states : Int32} {all past rf : Nat → Int32} (hN : 200 ≤ N) (hH : hOK (h0 + 1) Hs) (hr : hsR (h0 + 1) Hs states past) : ∃ all', f_X8_back N past states all rf = some (nI h0, nI h0, all', rf) ∧ mR (Hs h0) all' ∧ hsR h0 Hs (nI h0) past := by
  obtain ⟨h5, hHs⟩ := hH
  obtain ⟨hst, hpast⟩ := hr
  obtain ⟨all', -, a2, a3⟩ := back27 (N := N) (h0 := h0) (past := past) (rf := rf) (by omega) 38 0 N all (by omega) (by omega)
  refine ⟨all', ?_, mR_congr (hHs h0 (by omega)) (fun x hx => ?_) (hpast h0 (by omega)), rfl, fun i hi => hpast i (by omega)⟩
  · unfold f_X8_back
    rw [hst, if_neg (nI_ne0 (by omega) (by omega)), nI_pred]
    exact a3
  · show past (38 * h0 + x) = all' x
    rw [a2 x (by omega) hx]
