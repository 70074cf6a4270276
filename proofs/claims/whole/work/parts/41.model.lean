/-! ===== what changes a model: an unknown, a range, a rule added or dropped; ranges cut ===== -/
def nup (f : Nat → Nat) (k x : Nat) : Nat → Nat := fun j => if j = k then x else f j
def sAddU (S : mS) (p q : Int) : mS := (sn S + 1, sm S, iup (sl S) (sn S) p, iup (sh S) (sn S) q, sk S, sx S, sy S, sz S)
def sRange (S : mS) (u : Nat) (p q : Int) : mS := (sn S, sm S, iup (sl S) u p, iup (sh S) u q, sk S, sx S, sy S, sz S)
def sAddR (S : mS) (k x y z : Nat) : mS := (sn S, sm S + 1, sl S, sh S, nup (sk S) (sm S) k, nup (sx S) (sm S) x, nup (sy S) (sm S) y, nup (sz S) (sm S) z)
def dr (k : Nat) (f : Nat → Nat) : Nat → Nat := fun i => if i < k then f i else f (i + 1)
def sDrop (S : mS) (k : Nat) : mS := (sn S, sm S - 1, sl S, sh S, dr k (sk S), dr k (sx S), dr k (sy S), dr k (sz S))
def sBox (S : mS) (B : aB) : mS := (sn S, sm S, B.1, B.2.1, sk S, sx S, sy S, sz S)
/-! an unknown -/
theorem addU {S : mS} {p q : Int} (hS : mOK S) (hp : isP p) (hq : isP q) (hpq : p ≤ q) (h6 : sn S < 6) : mOK (sAddU S p q) ∧
    (∀ ru l h kd x y z, mC S (nI (sn S)) ru l h kd x y z → ∃ l' h', f_X3_addUnknown (nI (sn S)) l h (Int32.ofInt p) (Int32.ofInt q) = some (nI (sn S), nI (sn S + 1), l', h') ∧ mC (sAddU S p q) (nI (sn S + 1)) ru l' h' kd x y z) ∧
    (∀ all, mR S all → ∃ all', f_X8_unknownNow all (Int32.ofInt p) (Int32.ofInt q) = some (nI (sn S), all') ∧ mR (sAddU S p q) all') := by
  have hm := hS.2.1
  refine ⟨⟨by show sn S + 1 ≤ 6; omega, hm, fun u hu => ?_, fun k hk => ?_⟩, fun ru l h kd x y z hC => ?_, fun all hR => ?_⟩
  · have hu' : u < sn S + 1 := hu
    show isP (if u = sn S then p else sl S u) ∧ isP (if u = sn S then q else sh S u) ∧ (if u = sn S then p else sl S u) ≤ (if u = sn S then q else sh S u)
    by_cases g : u = sn S
    · rw [if_pos g, if_pos g]
      exact ⟨hp, hq, hpq⟩
    · rw [if_neg g, if_neg g]
      exact hS.2.2.1 u (by omega)
  · obtain ⟨h1, h2, h3, h4⟩ := hS.2.2.2 k hk
    show sk S k ≤ 5 ∧ sx S k < sn S + 1 ∧ sy S k < sn S + 1 ∧ sz S k < sn S + 1
    omega
  · obtain ⟨h1, h2, h3, h4⟩ := hC
    refine ⟨upd l (sn S) (Int32.ofInt p), upd h (sn S) (Int32.ofInt q), ?_, rfl, h2, fun u hu => ?_, h4⟩
    · unfold f_X3_addUnknown
      rw [o_inN (by omega) (by decide), o_inN (by omega) (by decide), nI_1, nI_pred, nI_clamp (by omega)]
    · have hu' : u < sn S + 1 := hu
      show upd l (sn S) _ u = Int32.ofInt (if u = sn S then p else sl S u) ∧ upd h (sn S) _ u = Int32.ofInt (if u = sn S then q else sh S u)
      unfold upd
      by_cases g : u = sn S
      · rw [if_pos g, if_pos g, if_pos g, if_pos g]
        exact ⟨rfl, rfl⟩
      · rw [if_neg g, if_neg g, if_neg g, if_neg g]
        exact h3 u (by omega)
  · obtain ⟨h1, h2, h3, h4⟩ := id hR
    have e1 : (1 : Int32) + 2 * nI (sn S) = nI (1 + 2 * sn S) := by
      rw [show (1 : Int32) = nI 1 from rfl, show (2 : Int32) = nI 2 from rfl, pk_mul, nI_add]
    have e2 : (2 : Int32) + 2 * nI (sn S) = nI (2 + 2 * sn S) := by
      rw [show (2 : Int32) = nI 2 from rfl, pk_mul, nI_add]
    refine ⟨upd (upd (upd all (1 + 2 * sn S) (Int32.ofInt p)) (2 + 2 * sn S) (Int32.ofInt q)) 0 (nI (sn S + 1)), ?_, ?_, ?_, fun u hu => ?_, fun k hk => ?_⟩
    · unfold f_X8_unknownNow
      rw [y_unknowns hR, o_b1_some, e1, e2, o_inN (by omega) (by decide), o_inN (by omega) (by decide), nI_clamp (by omega), nI_clamp (by omega)]
      have e0 : (0 : Int32).toNatClampNeg = 0 := by decide
      have o0 : ∀ k : Option (Int32 × (Nat → Int32)), o_in 0 38 k = k := fun k => if_neg (by decide)
      rw [o0, o0, e0, pk_un (by omega), pk_un (by omega), h1, nI_1]
    · exact pk_us
    · rw [pk_un (by omega), pk_un (by omega), pk_un (by omega)]
      exact h2
    · have hu' : u < sn S + 1 := hu
      refine ⟨?_, ?_⟩
      · show _ = Int32.ofInt (if u = sn S then p else sl S u)
        unfold upd
        rw [if_neg (by omega), if_neg (by omega)]
        by_cases g : u = sn S
        · rw [if_pos (by omega), if_pos g]
        · rw [if_neg (by omega), if_neg g]
          exact (h3 u (by omega)).1
      · show _ = Int32.ofInt (if u = sn S then q else sh S u)
        unfold upd
        rw [if_neg (by omega)]
        by_cases g : u = sn S
        · rw [if_pos (by omega), if_pos g]
        · rw [if_neg (by omega), if_neg (by omega), if_neg g]
          exact (h3 u (by omega)).2
    · have hk' : k < sm S := hk
      rw [pk_un (by omega), pk_un (by omega), pk_un (by omega), pk_un (by omega), pk_un (by omega), pk_un (by omega), pk_un (by omega), pk_un (by omega), pk_un (by omega), pk_un (by omega), pk_un (by omega), pk_un (by omega)]
      exact h4 k hk
/-! a rule -/
theorem addR {S : mS} {k x y z : Nat} (hS : mOK S) (hk : k ≤ 5) (hx : x < sn S) (hy : y < sn S) (hz : z < sn S) (h6 : sm S < 6) : mOK (sAddR S k x y z) ∧
    (∀ un l h kd xs ys zs, mC S un (nI (sm S)) l h kd xs ys zs → ∃ kd' x' y' z', f_X3_addRule (nI (sm S)) kd xs ys zs (nI k) (nI x) (nI y) (nI z) = some (nI (sm S), nI (sm S + 1), kd', x', y', z') ∧ mC (sAddR S k x y z) un (nI (sm S + 1)) l h kd' x' y' z') ∧
    (∀ all, mR S all → ∃ all', f_X8_ruleNow all (nI k) (nI x) (nI y) (nI z) = some (nI (sm S), all') ∧ mR (sAddR S k x y z) all') := by
  have hn := hS.1
  refine ⟨⟨hn, by show sm S + 1 ≤ 6; omega, hS.2.2.1, fun j hj => ?_⟩, fun un l h kd xs ys zs hC => ?_, fun all hR => ?_⟩
  · have hj' : j < sm S + 1 := hj
    show (if j = sm S then k else sk S j) ≤ 5 ∧ (if j = sm S then x else sx S j) < sn S ∧ (if j = sm S then y else sy S j) < sn S ∧ (if j = sm S then z else sz S j) < sn S
    by_cases g : j = sm S
    · rw [if_pos g, if_pos g, if_pos g, if_pos g]
      exact ⟨hk, hx, hy, hz⟩
    · rw [if_neg g, if_neg g, if_neg g, if_neg g]
      exact hS.2.2.2 j (by omega)
  · obtain ⟨h1, h2, h3, h4⟩ := hC
    refine ⟨upd kd (sm S) (nI k), upd xs (sm S) (nI x), upd ys (sm S) (nI y), upd zs (sm S) (nI z), ?_, h1, rfl, h3, fun j hj => ?_⟩
    · unfold f_X3_addRule
      rw [o_inN (by omega) (by decide), o_inN (by omega) (by decide), o_inN (by omega) (by decide), o_inN (by omega) (by decide), nI_1, nI_pred, nI_clamp (by omega)]
    · have hj' : j < sm S + 1 := hj
      show upd kd (sm S) _ j = nI (if j = sm S then k else sk S j) ∧ upd xs (sm S) _ j = nI (if j = sm S then x else sx S j) ∧ upd ys (sm S) _ j = nI (if j = sm S then y else sy S j) ∧ upd zs (sm S) _ j = nI (if j = sm S then z else sz S j)
      unfold upd
      by_cases g : j = sm S
      · rw [if_pos g, if_pos g, if_pos g, if_pos g, if_pos g, if_pos g, if_pos g, if_pos g]
        exact ⟨rfl, rfl, rfl, rfl⟩
      · rw [if_neg g, if_neg g, if_neg g, if_neg g, if_neg g, if_neg g, if_neg g, if_neg g]
        exact h4 j (by omega)
  · obtain ⟨h1, h2, h3, h4⟩ := id hR
    have e : ∀ c : Nat, nI c + 4 * nI (sm S) = nI (c + 4 * sm S) := fun c => by
      rw [show (4 : Int32) = nI 4 from rfl, pk_mul, nI_add]
    have e14 : (14 : Int32) + 4 * nI (sm S) = nI (14 + 4 * sm S) := e 14
    have e15 : (15 : Int32) + 4 * nI (sm S) = nI (15 + 4 * sm S) := e 15
    have e16 : (16 : Int32) + 4 * nI (sm S) = nI (16 + 4 * sm S) := e 16
    have e17 : (17 : Int32) + 4 * nI (sm S) = nI (17 + 4 * sm S) := e 17
    refine ⟨upd (upd (upd (upd (upd all (14 + 4 * sm S) (nI k)) (15 + 4 * sm S) (nI x)) (16 + 4 * sm S) (nI y)) (17 + 4 * sm S) (nI z)) 13 (nI (sm S + 1)), ?_, ?_, ?_, fun u hu => ?_, fun j hj => ?_⟩
    · unfold f_X8_ruleNow
      rw [y_rules hR, o_b1_some, e14, e15, e16, e17, o_inN (by omega) (by decide), o_inN (by omega) (by decide), o_inN (by omega) (by decide), o_inN (by omega) (by decide), nI_clamp (by omega), nI_clamp (by omega), nI_clamp (by omega), nI_clamp (by omega)]
      have e0 : (13 : Int32).toNatClampNeg = 13 := by decide
      have o0 : ∀ k : Option (Int32 × (Nat → Int32)), o_in 13 38 k = k := fun k => if_neg (by decide)
      rw [o0, o0, e0, pk_un (by omega), pk_un (by omega), pk_un (by omega), pk_un (by omega), h2, nI_1]
    · rw [pk_un (by omega), pk_un (by omega), pk_un (by omega), pk_un (by omega), pk_un (by omega)]
      exact h1
    · exact pk_us
    · have hu' : u < sn S := hu
      rw [pk_un (by omega), pk_un (by omega), pk_un (by omega), pk_un (by omega), pk_un (by omega), pk_un (by omega), pk_un (by omega), pk_un (by omega), pk_un (by omega), pk_un (by omega)]
      exact h3 u hu
    · have hj' : j < sm S + 1 := hj
      refine ⟨?_, ?_, ?_, ?_⟩
      · show _ = nI (if j = sm S then k else sk S j)
        unfold upd
        rw [if_neg (by omega), if_neg (by omega), if_neg (by omega), if_neg (by omega)]
        by_cases g : j = sm S
        · rw [if_pos (by omega), if_pos g]
        · rw [if_neg (by omega), if_neg g]
          exact (h4 j (by omega)).1
      · show _ = nI (if j = sm S then x else sx S j)
        unfold upd
        rw [if_neg (by omega), if_neg (by omega), if_neg (by omega)]
        by_cases g : j = sm S
        · rw [if_pos (by omega), if_pos g]
        · rw [if_neg (by omega), if_neg (by omega), if_neg g]
          exact (h4 j (by omega)).2.1
      · show _ = nI (if j = sm S then y else sy S j)
        unfold upd
        rw [if_neg (by omega), if_neg (by omega)]
        by_cases g : j = sm S
        · rw [if_pos (by omega), if_pos g]
        · rw [if_neg (by omega), if_neg (by omega), if_neg (by omega), if_neg g]
          exact (h4 j (by omega)).2.2.1
      · show _ = nI (if j = sm S then z else sz S j)
        unfold upd
        rw [if_neg (by omega)]
        by_cases g : j = sm S
        · rw [if_pos (by omega), if_pos g]
        · rw [if_neg (by omega), if_neg (by omega), if_neg (by omega), if_neg (by omega), if_neg g]
          exact (h4 j (by omega)).2.2.2
/-! a rule dropped -/
theorem drop12 {N m1 : Nat} (hm : m1 ≤ 5) : ∀ (j i F : Nat) (kd x y z : Nat → Int32), i + j = m1 → j < F → ∃ kd' x' y' z', f_X3_dropRule_L12 N F (nI m1) kd x y z (nI i) = some (nI m1, nI m1, kd', x', y', z') ∧ (∀ p, p < i → kd' p = kd p ∧ x' p = x p ∧ y' p = y p ∧ z' p = z p) ∧ (∀ p, i ≤ p → p < m1 → kd' p = kd (p + 1) ∧ x' p = x (p + 1) ∧ y' p = y (p + 1) ∧ z' p = z (p + 1)) := by
  intro j
  induction j with
  | zero =>
    intro i F kd x y z hi hF
    obtain ⟨F', rfl⟩ : ∃ F', F = F' + 1 := ⟨F - 1, by omega⟩
    refine ⟨kd, x, y, z, ?_, fun p _ => ⟨rfl, rfl, rfl, rfl⟩, fun p h1 h2 => absurd h1 (by omega)⟩
    rw [show f_X3_dropRule_L12 N (F' + 1) = f_X3_dropRule_C12 N (f_X3_dropRule_L12 N F') from rfl]
    unfold f_X3_dropRule_C12
    rw [if_pos ((nI_leI (by omega) (by omega)).mpr (by omega))]
  | succ j ih =>
    intro i F kd x y z hi hF
    obtain ⟨F', rfl⟩ : ∃ F', F = F' + 1 := ⟨F - 1, by omega⟩
    obtain ⟨kd', x', y', z', h1, h2, h3⟩ := ih (i + 1) F' (upd kd i (kd (i + 1))) (upd x i (x (i + 1))) (upd y i (y (i + 1))) (upd z i (z (i + 1))) (by omega) (by omega)
    refine ⟨kd', x', y', z', ?_, fun p hp => ?_, fun p hp1 hp2 => ?_⟩
    · rw [← h1, show f_X3_dropRule_L12 N (F' + 1) = f_X3_dropRule_C12 N (f_X3_dropRule_L12 N F') from rfl]
      unfold f_X3_dropRule_C12
      have : ¬ nI m1 ≤ nI i := fun q => by
        have := (nI_leI (by omega) (by omega)).mp q
        omega
      rw [if_neg this, nI_1, o_inN (by omega) (by decide), o_inN (by omega) (by decide), o_inN (by omega) (by decide), o_inN (by omega) (by decide), o_inN (by omega) (by decide), o_inN (by omega) (by decide), o_inN (by omega) (by decide), o_inN (by omega) (by decide), nI_clamp (by omega), nI_clamp (by omega)]
    · obtain ⟨a1, a2, a3, a4⟩ := h2 p (by omega)
      rw [a1, a2, a3, a4, pk_un (by omega), pk_un (by omega), pk_un (by omega), pk_un (by omega)]
      exact ⟨rfl, rfl, rfl, rfl⟩
    · by_cases g : p = i
      · obtain ⟨a1, a2, a3, a4⟩ := h2 p (by omega)
        rw [a1, a2, a3, a4, g, pk_us, pk_us, pk_us, pk_us]
        exact ⟨rfl, rfl, rfl, rfl⟩
      · obtain ⟨a1, a2, a3, a4⟩ := h3 p (by omega) hp2
        rw [a1, a2, a3, a4, pk_un (by omega), pk_un (by omega), pk_un (by omega), pk_un (by omega)]
        exact ⟨rfl, rfl, rfl, rfl⟩
theorem drop18 {N m1 : Nat} (hm : m1 ≤ 5) : ∀ (j i F : Nat) (all : Nat → Int32), i + j = 14 + 4 * m1 → 14 ≤ i → j < F → all 13 = nI m1 → ∃ all', f_X8_dropNow_L18 N F all (nI i) = some (nI m1, all') ∧ (∀ p, p < i → all' p = all p) ∧ (∀ p, i ≤ p → p < 14 + 4 * m1 → all' p = all (p + 4)) := by
  intro j
  have e : (14 : Int32) + 4 * nI m1 = nI (14 + 4 * m1) := by
    rw [show (14 : Int32) = nI 14 from rfl, show (4 : Int32) = nI 4 from rfl, pk_mul, nI_add]
  have rl : ∀ all : Nat → Int32, all 13 = nI m1 → f_X8_rules all = some (nI m1) := fun all h => by
    rw [← h]
    rfl
  induction j with
  | zero =>
    intro i F all hi h14 hF h13
    obtain ⟨F', rfl⟩ : ∃ F', F = F' + 1 := ⟨F - 1, by omega⟩
    refine ⟨all, ?_, fun p _ => rfl, fun p h1 h2 => absurd h1 (by omega)⟩
    rw [show f_X8_dropNow_L18 N (F' + 1) = f_X8_dropNow_C18 N (f_X8_dropNow_L18 N F') from rfl]
    unfold f_X8_dropNow_C18
    rw [rl all h13, o_b1_some, e, if_pos ((nI_leI (by omega) (by omega)).mpr (by omega)), o_b1_some]
  | succ j ih =>
    intro i F all hi h14 hF h13
    obtain ⟨F', rfl⟩ : ∃ F', F = F' + 1 := ⟨F - 1, by omega⟩
    obtain ⟨all', h1, h2, h3⟩ := ih (i + 1) F' (upd all i (all (i + 4))) (by omega) (by omega) (by omega) (by rw [pk_un (by omega)]; exact h13)
    refine ⟨all', ?_, fun p hp => ?_, fun p hp1 hp2 => ?_⟩
    · rw [← h1, show f_X8_dropNow_L18 N (F' + 1) = f_X8_dropNow_C18 N (f_X8_dropNow_L18 N F') from rfl]
      unfold f_X8_dropNow_C18
      have : ¬ nI (14 + 4 * m1) ≤ nI i := fun q => by
        have := (nI_leI (by omega) (by omega)).mp q
        omega
      have e4 : nI i + (4 : Int32) = nI (i + 4) := nI_add i 4
      rw [rl all h13, o_b1_some, e, if_neg this, e4, o_inN (by omega) (by decide), o_inN (by omega) (by decide), nI_clamp (by omega), nI_clamp (by omega), nI_1]
    · rw [h2 p (by omega), pk_un (by omega)]
    · by_cases g : p = i
      · rw [g, h2 i (by omega), pk_us]
      · rw [h3 p (by omega) hp2, pk_un (by omega)]
theorem dropR {S : mS} {N k : Nat} (hN : 40 ≤ N) (hS : mOK S) (hk : k < sm S) : mOK (sDrop S k) ∧
    (∀ un l h kd x y z, mC S un (nI (sm S)) l h kd x y z → ∃ kd' x' y' z', f_X3_dropRule N (nI (sm S)) kd x y z (nI k) = some (nI (sm S - 1), nI (sm S - 1), kd', x', y', z') ∧ mC (sDrop S k) un (nI (sm S - 1)) l h kd' x' y' z') ∧
    (∀ all, mR S all → ∃ all', f_X8_dropNow N all (nI k) = some (nI (sm S - 1), all') ∧ mR (sDrop S k) all') := by
  have hn := hS.1
  have hm := hS.2.1
  refine ⟨⟨hn, by show sm S - 1 ≤ 6; omega, hS.2.2.1, fun j hj => ?_⟩, fun un l h kd x y z hC => ?_, fun all hR => ?_⟩
  · have hj' : j < sm S - 1 := hj
    show (if j < k then sk S j else sk S (j + 1)) ≤ 5 ∧ (if j < k then sx S j else sx S (j + 1)) < sn S ∧ (if j < k then sy S j else sy S (j + 1)) < sn S ∧ (if j < k then sz S j else sz S (j + 1)) < sn S
    by_cases g : j < k
    · rw [if_pos g, if_pos g, if_pos g, if_pos g]
      exact hS.2.2.2 j (by omega)
    · rw [if_neg g, if_neg g, if_neg g, if_neg g]
      exact hS.2.2.2 (j + 1) (by omega)
  · obtain ⟨h1, h2, h3, h4⟩ := hC
    obtain ⟨kd', x', y', z', a1, a2, a3⟩ := drop12 (N := N) (m1 := sm S - 1) (by omega) (sm S - 1 - k) k N kd x y z (by omega) (by omega)
    refine ⟨kd', x', y', z', ?_, h1, rfl, h3, fun j hj => ?_⟩
    · unfold f_X3_dropRule
      rw [show nI (sm S) - 1 = nI (sm S - 1) by rw [show sm S = (sm S - 1) + 1 by omega, nI_pred, Nat.add_sub_cancel]]
      exact a1
    · have hj' : j < sm S - 1 := hj
      show kd' j = nI (if j < k then sk S j else sk S (j + 1)) ∧ x' j = nI (if j < k then sx S j else sx S (j + 1)) ∧ y' j = nI (if j < k then sy S j else sy S (j + 1)) ∧ z' j = nI (if j < k then sz S j else sz S (j + 1))
      by_cases g : j < k
      · obtain ⟨b1, b2, b3, b4⟩ := a2 j g
        rw [if_pos g, if_pos g, if_pos g, if_pos g, b1, b2, b3, b4]
        exact h4 j (by omega)
      · obtain ⟨b1, b2, b3, b4⟩ := a3 j (by omega) hj'
        rw [if_neg g, if_neg g, if_neg g, if_neg g, b1, b2, b3, b4]
        exact h4 (j + 1) (by omega)
  · obtain ⟨h1, h2, h3, h4⟩ := id hR
    obtain ⟨all', a1, a2, a3⟩ := drop18 (N := N) (m1 := sm S - 1) (by omega) (4 * (sm S - 1 - k)) (14 + 4 * k) N (upd all 13 (nI (sm S - 1))) (by omega) (by omega) (by omega) pk_us
    have low : ∀ p, p < 14 + 4 * k → p ≠ 13 → all' p = all p := fun p hp h => by rw [a2 p hp, pk_un h]
    have high : ∀ p, 14 + 4 * k ≤ p → p < 14 + 4 * (sm S - 1) → all' p = all (p + 4) := fun p hp1 hp2 => by rw [a3 p hp1 hp2, pk_un (by omega)]
    refine ⟨all', ?_, ?_, ?_, fun u hu => ?_, fun j hj => ?_⟩
    · unfold f_X8_dropNow
      have e0 : (13 : Int32).toNatClampNeg = 13 := by decide
      have o0 : ∀ k : Option (Int32 × (Nat → Int32)), o_in 13 38 k = k := fun k => if_neg (by decide)
      have e : (14 : Int32) + 4 * nI k = nI (14 + 4 * k) := by
        rw [show (14 : Int32) = nI 14 from rfl, show (4 : Int32) = nI 4 from rfl, pk_mul, nI_add]
      rw [o0, o0, e0, h2, show nI (sm S) - 1 = nI (sm S - 1) by rw [show sm S = (sm S - 1) + 1 by omega, nI_pred, Nat.add_sub_cancel]]
      simp only [o_nm]
      rw [e]
      exact a1
    · rw [low 0 (by omega) (by omega)]
      exact h1
    · rw [a2 13 (by omega), pk_us]
      rfl
    · have hu' : u < sn S := hu
      rw [low _ (by omega) (by omega), low _ (by omega) (by omega)]
      exact h3 u hu
    · have hj' : j < sm S - 1 := hj
      show all' (14 + 4 * j) = nI (if j < k then sk S j else sk S (j + 1)) ∧ all' (15 + 4 * j) = nI (if j < k then sx S j else sx S (j + 1)) ∧ all' (16 + 4 * j) = nI (if j < k then sy S j else sy S (j + 1)) ∧ all' (17 + 4 * j) = nI (if j < k then sz S j else sz S (j + 1))
      by_cases g : j < k
      · rw [if_pos g, if_pos g, if_pos g, if_pos g, low _ (by omega) (by omega), low _ (by omega) (by omega), low _ (by omega) (by omega), low _ (by omega) (by omega)]
        exact h4 j (by omega)
      · rw [if_neg g, if_neg g, if_neg g, if_neg g, high _ (by omega) (by omega), high _ (by omega) (by omega), high _ (by omega) (by omega), high _ (by omega) (by omega), show 14 + 4 * j + 4 = 14 + 4 * (j + 1) by omega, show 15 + 4 * j + 4 = 15 + 4 * (j + 1) by omega, show 16 + 4 * j + 4 = 16 + 4 * (j + 1) by omega, show 17 + 4 * j + 4 = 17 + 4 * (j + 1) by omega]
        exact h4 (j + 1) (by omega)
