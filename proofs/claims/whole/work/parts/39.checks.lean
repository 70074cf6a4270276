/-! ===== the class's memo of solving; checks of both sides ===== -/
def memo (N : Nat) (S : mS) (k : Nat) (v t l : Int32) (pt : Nat → Int32) : Prop := ∃ (t' q' : Nat) (fnd : Bool) (P : Nat → Int), v = vd fnd q' ∧ t = nI t' ∧ l = nI q' ∧ q' ≤ 61 ∧ (fnd = true → lC (sn S) P pt) ∧ ∀ all, mR S all → ∀ e c rm tk f box row, ∃ e1 c1 b1 r1, f_X8_solve N all e c rm tk f box row (nI k) = some (e1, c1, nI q', nI t', bI fnd, b1, r1) ∧ (fnd = true → lR (sn S) P b1)
def sC (N : Nat) (S : mS) (sb v t l : Int32) (pt : Nat → Int32) : Prop := sb = 0 ∨ ∃ k : Nat, 1 ≤ k ∧ k ≤ 60 ∧ sb = nI k ∧ memo N S k v t l pt
theorem solve_both {S : mS} {N k : Nat} (hS : mOK S) (hN : 100 ≤ N) (hk1 : 1 ≤ k) (hk2 : k ≤ 60) {un ru v t lf sb cut empty : Int32} {l h kd x y z bl bh lows highs pt : Nat → Int32} (hC : mC S un ru l h kd x y z) (hs : sC N S sb v t lf pt) : ∃ v' t' l' c1 e1 bl1 bh1 lo1 hi1 pt', f_X5_solve N un ru l h x y z kd v t lf sb cut empty bl bh lows highs pt (nI k) = some (v', t', l', nI k, c1, e1, bl1, bh1, lo1, hi1, pt') ∧ memo N S k v' t' l' pt' := by
  obtain ⟨hun, hru, hu, hr⟩ := hC
  have hn := hS.1
  by_cases g : sb = nI k
  · refine ⟨v, t, lf, cut, empty, bl, bh, lows, highs, pt, ?_, ?_⟩
    · unfold f_X5_solve
      rw [if_pos g, g]
    · rcases hs with h0 | ⟨k', h1, h2, h3, h4⟩
      · exact absurd (g.symm.trans h0) (nI_ne0 (by omega) (by omega))
      · have : k' = k := (nI_eq (by omega) (by omega)).mp (h3.symm.trans g)
        rw [← this]
        exact h4
  · obtain ⟨t', q', fnd, P, ht', hq', hc, hrf⟩ := solve_loop (N := N) (nn := k) hS (by omega) hk2 k 0 1 N (qPut 0 (sl S) (sh S) (fun _ => (sl S, sh S))) (by omega) (by omega) (by omega) (fun i hi u hu' => by
      unfold qPut
      rw [if_pos (by omega)]
      exact hS.2.2.1 u hu')
    obtain ⟨lo, hi, hp, hrow⟩ := z_put (n := sn S) (q := 0) (Q := fun _ => (sl S, sh S)) (L := sl S) (H := sh S) (bl := va_cpy l bl 0 0 6) (bh := va_cpy h bh 0 0 6) (lows := lows) (highs := highs) hn (by omega) (fun u hu' => ⟨cpy6 (k := 0) (L := sl S) hn (fun v hv => by rw [Nat.zero_add]; exact (hu v hv).1) u hu', cpy6 (k := 0) (L := sh S) hn (fun v hv => by rw [Nat.zero_add]; exact (hu v hv).2) u hu'⟩) (fun i hi => absurd hi (by omega))
    obtain ⟨c1, e1, bl1, bh1, lo1, hi1, pt', heq, hpt⟩ := hc l h kd x y z hr v (nI k) cut empty (va_cpy l bl 0 0 6) (va_cpy h bh 0 0 6) lo hi pt hrow
    refine ⟨vd fnd q', nI t', nI q', c1, e1, bl1, bh1, lo1, hi1, pt', ?_, t', q', fnd, P, rfl, rfl, rfl, hq', hpt, fun all hR e c rm tk f box row => ?_⟩
    · unfold f_X5_solve
      have hl : f_X0_load 6 6 l h bl bh 0 = some (va_cpy l bl 0 0 6, va_cpy h bh 0 0 6) := z_load (k := 0) (by omega) (by decide)
      have hp' : f_X5_put (va_cpy l bl 0 0 6) (va_cpy h bh 0 0 6) 0 lows highs = some (1, lo, hi) := hp
      rw [if_neg g, hl, o_b2_some, hp', o_b3_some, hun, hru]
      exact heq
    · obtain ⟨box', hb1, hb2⟩ := y_lays (N := N) hS (by omega) hR e box
      obtain ⟨row', hw1, hw2⟩ := y_puts0 (n := sn S) (N := N) (q := 0) (Q := fun _ => (sl S, sh S)) (L := sl S) (H := sh S) (box := box') (row := row) (by omega) hn (by omega) hb2.2 (fun i hi => absurd hi (by omega))
      obtain ⟨e2, c2, b2, r2, heq2, hP2⟩ := hrf all hR 0 c box' row' hw2
      refine ⟨e2, c2, b2, r2, ?_, hP2⟩
      unfold f_X8_solve
      have hw1' : f_X8_puts N box' 0 row (-1) 0 0 = some (1, row') := hw1
      rw [hb1, o_b2_some, hw1', o_b2_some]
      exact heq2
/-! comparisons with what is known -/
theorem i_lt {x c : Int32} {C : Int} (h : c.toInt = C) : x < c ↔ x.toInt < C := by rw [Int32.lt_iff_toInt_lt, h]
theorem i_gt {x c : Int32} {C : Int} (h : c.toInt = C) : c < x ↔ C < x.toInt := by rw [Int32.lt_iff_toInt_lt, h]
theorem i_le {x c : Int32} {C : Int} (h : c.toInt = C) : x ≤ c ↔ x.toInt ≤ C := by rw [Int32.le_iff_toInt_le, h]
theorem i_ge {x c : Int32} {C : Int} (h : c.toInt = C) : c ≤ x ↔ C ≤ x.toInt := by rw [Int32.le_iff_toInt_le, h]
theorem i_eq {x c : Int32} {C : Int} (h : c.toInt = C) : x = c ↔ x.toInt = C := by rw [← Int32.toInt_inj, h]
theorem bI_2 (p q : Prop) [Decidable p] [Decidable q] : (if p then some (0 : Int32) else if q then some 0 else some 1) = some (bI (decide (¬ p ∧ ¬ q))) := by
  by_cases hp : p
  · rw [if_pos hp, decide_eq_false (fun h => h.1 hp)]
    rfl
  · rw [if_neg hp]
    by_cases hq : q
    · rw [if_pos hq, decide_eq_false (fun h => h.2 hq)]
      rfl
    · rw [if_neg hq, decide_eq_true ⟨hp, hq⟩]
      rfl
theorem bI_c {p q : Prop} [Decidable p] [Decidable q] (h : p ↔ q) : some (bI (decide p)) = some (bI (decide q)) := by
  rw [decide_eq_decide.mpr h]
theorem y_in {x : Int32} {a b : Int64} {A B : Int} (hA : a.toInt = A) (hB : b.toInt = B) : f_X8_in x.toInt64 a b = some (bI (decide (A ≤ x.toInt ∧ x.toInt ≤ B))) := by
  unfold f_X8_in
  rw [bI_2]
  refine bI_c ?_
  rw [lc_lt, lc_gt, Int32.toInt_toInt64, hA, hB]
  omega
theorem z_has {n : Nat} (hn : n ≤ 6) (x : Int32) : f_X3_hasUnknown (nI n) x = some (bI (decide (0 ≤ x.toInt ∧ x.toInt ≤ (n : Int) - 1))) := by
  unfold f_X3_hasUnknown
  rw [bI_2]
  refine bI_c ?_
  rw [i_lt (x := x) (c := 0) (C := 0) rfl, i_ge (x := x) (c := nI n) (C := n) (nI_toInt (by omega))]
  omega
theorem z_hasR {n : Nat} (hn : n ≤ 6) (x : Int32) : f_X3_hasRule (nI n) x = some (bI (decide (0 ≤ x.toInt ∧ x.toInt ≤ (n : Int) - 1))) := z_has hn x
theorem y_m1 {n : Nat} (hn : n ≤ 6) : (nI n - 1).toInt64.toInt = (n : Int) - 1 := by
  rw [iI_nI, iI_d1, iI_64 (by omega) (by omega), jI_T (by omega) (by omega)]
theorem y_has {S : mS} {all : Nat → Int32} (hS : mOK S) (hR : mR S all) (x : Int32) : f_X8_isUnknown all x = some (bI (decide (0 ≤ x.toInt ∧ x.toInt ≤ (sn S : Int) - 1))) := by
  unfold f_X8_isUnknown
  rw [y_unknowns hR, o_b1_some, y_in (A := 0) (B := (sn S : Int) - 1) rfl (y_m1 hS.1), o_b1_some, bI_zb, o_ck_true]
theorem y_hasR {S : mS} {all : Nat → Int32} (hS : mOK S) (hR : mR S all) (x : Int32) : f_X8_isRule all x = some (bI (decide (0 ≤ x.toInt ∧ x.toInt ≤ (sm S : Int) - 1))) := by
  unfold f_X8_isRule
  rw [y_rules hR, o_b1_some, y_in (A := 0) (B := (sm S : Int) - 1) rfl (y_m1 hS.2.1), o_b1_some, bI_zb, o_ck_true]
theorem nI_at {n : Nat} {x : Int32} (hn : n ≤ 6) (h : 0 ≤ x.toInt ∧ x.toInt ≤ (n : Int) - 1) : ∃ u, u < n ∧ x = nI u := by
  refine ⟨x.toInt.toNat, by omega, ?_⟩
  have : (x.toInt.toNat : Int) = x.toInt := by omega
  rw [iI_nI, this, Int32.ofInt_toInt]
theorem z_isPlace (x : Int32) : f_X4_isPlace x = some (bI (decide (-2139095040 ≤ x.toInt ∧ x.toInt ≤ 2139095039))) := by
  unfold f_X4_isPlace
  rw [bI_2]
  refine bI_c ?_
  rw [i_lt (x := x) (C := -2139095040) rfl, i_gt (x := x) (C := 2139095039) rfl]
  omega
theorem y_isPlace (x : Int32) : f_X8_isPlace x = some (bI (decide (-2139095040 ≤ x.toInt ∧ x.toInt ≤ 2139095039))) := by
  unfold f_X8_isPlace
  rw [y_in (A := -2139095040) (B := 2139095039) rfl rfl, o_b1_some, bI_zb, o_ck_true]
/-! may an unknown, a rule be added -/
theorem Int32_of {x : Int32} : x = Int32.ofInt x.toInt := (Int32.ofInt_toInt x).symm
theorem can_unknown {S : mS} {all : Nat → Int32} (hS : mOK S) (hR : mR S all) (x1 x2 : Int32) : ∃ c : Int32, f_X3_refusalOfUnknown (nI (sn S)) x1 x2 = some c ∧ f_X8_canUnknown all x1 x2 = some c ∧ ((c = 0 ∧ isP x1.toInt ∧ isP x2.toInt ∧ x1.toInt ≤ x2.toInt ∧ sn S < 6) ∨ c = -2139095050 ∨ c = -2139095052) := by
  have hn := hS.1
  unfold f_X3_refusalOfUnknown f_X4_isRange f_X8_canUnknown
  rw [z_isPlace, z_isPlace, y_isPlace, y_isPlace, o_b1_some, o_b1_some, y_unknowns hR]
  simp only [o_b1_some]
  by_cases h1 : -2139095040 ≤ x1.toInt ∧ x1.toInt ≤ 2139095039
  · rw [decide_eq_true h1, if_neg (show ¬ bI true = 0 by decide), if_neg (show ¬ bI true = 0 by decide)]
    by_cases h2 : -2139095040 ≤ x2.toInt ∧ x2.toInt ≤ 2139095039
    · rw [decide_eq_true h2, if_neg (show ¬ bI true = 0 by decide), if_neg (show ¬ bI true = 0 by decide)]
      by_cases h3 : x1.toInt ≤ x2.toInt
      · rw [if_neg (fun q => by have := Int32.lt_iff_toInt_lt.mp q; omega), if_pos (Int32.le_iff_toInt_le.mpr h3), o_b1_some, if_neg (by decide)]
        by_cases h4 : sn S < 6
        · have e1 : nI (sn S) < (6 : Int32) := (nI_ltI (b := 6) (by omega) (by decide)).mpr h4
          have e2 : ¬ nI (sn S) = (6 : Int32) := fun q => by
            have := (nI_eq (b := 6) (by omega) (by decide)).mp q
            omega
          rw [if_pos e1, if_neg e2]
          exact ⟨0, rfl, rfl, Or.inl ⟨rfl, h1, h2, h3, h4⟩⟩
        · have e1 : ¬ nI (sn S) < (6 : Int32) := fun q => h4 ((nI_ltI (b := 6) (by omega) (by decide)).mp q)
          have e2 : nI (sn S) = (6 : Int32) := (nI_eq (b := 6) (by omega) (by decide)).mpr (by omega)
          rw [if_neg e1, if_pos e2]
          exact ⟨_, rfl, rfl, Or.inr (Or.inr rfl)⟩
      · rw [if_pos (Int32.lt_iff_toInt_lt.mpr (by omega)), if_neg (fun q => h3 (Int32.le_iff_toInt_le.mp q)), o_b1_some, if_pos rfl]
        exact ⟨_, rfl, rfl, Or.inr (Or.inl rfl)⟩
    · rw [decide_eq_false h2, if_pos (show bI false = 0 by decide), if_pos (show bI false = 0 by decide), o_b1_some, if_pos rfl]
      exact ⟨_, rfl, rfl, Or.inr (Or.inl rfl)⟩
  · rw [decide_eq_false h1, if_pos (show bI false = 0 by decide), if_pos (show bI false = 0 by decide), o_b1_some, if_pos rfl]
    exact ⟨_, rfl, rfl, Or.inr (Or.inl rfl)⟩
theorem bI_t : ¬ bI true = 0 := by decide
theorem bI_f : bI false = 0 := by decide
theorem can_rule {S : mS} {all : Nat → Int32} (hS : mOK S) (hR : mR S all) (x1 x2 x3 x4 : Int32) : ∃ c : Int32, f_X3_refusalOfRule (nI (sn S)) (nI (sm S)) x1 x2 x3 x4 = some c ∧ f_X8_canRule all x1 x2 x3 x4 = some c ∧ ((c = 0 ∧ sm S < 6 ∧ ∃ k x y z : Nat, k ≤ 5 ∧ x < sn S ∧ y < sn S ∧ z < sn S ∧ x1 = nI k ∧ x2 = nI x ∧ x3 = nI y ∧ x4 = nI z) ∨ c = -2139095050 ∨ c = -2139095052) := by
  have hn := hS.1
  have hm := hS.2.1
  have bad : ∀ {o1 o2 : Option Int32}, o1 = some (-2139095050) → o2 = some (-2139095050) → ∃ c : Int32, o1 = some c ∧ o2 = some c ∧ ((c = 0 ∧ sm S < 6 ∧ ∃ k x y z : Nat, k ≤ 5 ∧ x < sn S ∧ y < sn S ∧ z < sn S ∧ x1 = nI k ∧ x2 = nI x ∧ x3 = nI y ∧ x4 = nI z) ∨ c = -2139095050 ∨ c = -2139095052) := fun h1 h2 => ⟨_, h1, h2, Or.inr (Or.inl rfl)⟩
  -- the reference's tail
  have tl : ∀ b : Bool, f_X8_canRule_B24 all x1 x2 x3 (bI b) = if (0 ≤ x1.toInt ∧ x1.toInt ≤ 5) ∧ (0 ≤ x2.toInt ∧ x2.toInt ≤ (sn S : Int) - 1) ∧ (0 ≤ x3.toInt ∧ x3.toInt ≤ (sn S : Int) - 1) ∧ b = true then (if sm S < 6 then some 0 else some (-2139095052)) else some (-2139095050) := fun b => by
    unfold f_X8_canRule_B24
    rw [y_in (A := 0) (B := 5) rfl rfl, o_b1_some, y_has hS hR, o_b1_some, y_has hS hR, o_b1_some, y_rules hR, o_b1_some]
    by_cases h1 : 0 ≤ x1.toInt ∧ x1.toInt ≤ 5
    · rw [decide_eq_true h1, if_neg bI_t]
      by_cases h2 : 0 ≤ x2.toInt ∧ x2.toInt ≤ (sn S : Int) - 1
      · rw [decide_eq_true h2, if_neg bI_t]
        by_cases h3 : 0 ≤ x3.toInt ∧ x3.toInt ≤ (sn S : Int) - 1
        · rw [decide_eq_true h3, if_neg bI_t]
          cases b
          · rw [if_pos bI_f, if_neg (fun q => by cases q.2.2.2)]
          · have hall : (0 ≤ x1.toInt ∧ x1.toInt ≤ 5) ∧ (0 ≤ x2.toInt ∧ x2.toInt ≤ (sn S : Int) - 1) ∧ (0 ≤ x3.toInt ∧ x3.toInt ≤ (sn S : Int) - 1) ∧ true = true := ⟨h1, h2, h3, rfl⟩
            rw [if_neg bI_t, if_pos hall]
            have i6 : (nI (sm S) = (6 : Int32)) ↔ sm S = 6 := nI_eq (by omega) (by decide)
            by_cases h4 : sm S < 6
            · have : ¬ nI (sm S) = (6 : Int32) := fun q => by
                have := i6.mp q
                omega
              rw [if_neg this, if_pos h4]
            · rw [if_pos (i6.mpr (by omega)), if_neg h4]
        · rw [decide_eq_false h3, if_pos bI_f, if_neg (fun q => h3 q.2.2.1)]
      · rw [decide_eq_false h2, if_pos bI_f, if_neg (fun q => h2 q.2.1)]
    · rw [decide_eq_false h1, if_pos bI_f, if_neg (fun q => h1 q.1)]
  have l53 : f_X3_refusalOfRule_B53 (nI (sn S)) (nI (sm S)) = if sm S < 6 then some 0 else some (-2139095052) := by
    unfold f_X3_refusalOfRule_B53
    have i6 : (nI (sm S) < (6 : Int32)) ↔ sm S < 6 := nI_ltI (by omega) (by decide)
    by_cases h4 : sm S < 6
    · rw [if_pos (i6.mpr h4), if_pos h4]
    · rw [if_neg (fun q => h4 (i6.mp q)), if_neg h4]
  -- the reference's third
  have third : ∃ b : Bool, f_X8_canRule all x1 x2 x3 x4 = f_X8_canRule_B24 all x1 x2 x3 (bI b) ∧ (b = true ↔ ((3 ≤ x1.toInt ∧ x4.toInt = 0) ∨ (x1.toInt < 3 ∧ 0 ≤ x4.toInt ∧ x4.toInt ≤ (sn S : Int) - 1))) := by
    unfold f_X8_canRule
    by_cases g : 3 ≤ x1.toInt
    · rw [if_pos ((i_ge (c := 3) (C := 3) rfl).mpr g)]
      by_cases g0 : x4.toInt = 0
      · rw [if_pos ((i_eq (c := 0) (C := 0) rfl).mpr g0)]
        exact ⟨true, rfl, ⟨fun _ => Or.inl ⟨g, g0⟩, fun _ => rfl⟩⟩
      · rw [if_neg (fun q => g0 ((i_eq (c := 0) (C := 0) rfl).mp q))]
        refine ⟨false, rfl, ⟨fun q => absurd q (by decide), fun q => ?_⟩⟩
        rcases q with q | q
        · exact absurd q.2 g0
        · omega
    · rw [if_neg (fun q => g ((i_ge (c := 3) (C := 3) rfl).mp q)), y_has hS hR, o_b1_some]
      refine ⟨_, rfl, ⟨fun q => Or.inr ?_, fun q => ?_⟩⟩
      · have := of_decide_eq_true q
        omega
      · rcases q with q | q
        · omega
        · exact decide_eq_true q.2
  obtain ⟨b, hb1, hb2⟩ := third
  rw [hb1, tl b]
  unfold f_X3_refusalOfRule
  rw [z_has hn, o_b1_some, z_has hn, o_b1_some, z_has hn, o_b1_some, l53]
  by_cases h1 : x1.toInt < 0
  · rw [if_pos ((i_lt (c := 0) (C := 0) rfl).mpr h1), if_neg (fun q => by omega)]
    exact bad rfl rfl
  rw [if_neg (fun q => h1 ((i_lt (c := 0) (C := 0) rfl).mp q))]
  by_cases h2 : 5 < x1.toInt
  · rw [if_pos ((i_gt (c := 5) (C := 5) rfl).mpr h2), if_neg (fun q => by omega)]
    exact bad rfl rfl
  rw [if_neg (fun q => h2 ((i_gt (c := 5) (C := 5) rfl).mp q))]
  rcases Decidable.em (¬ (0 ≤ x2.toInt ∧ x2.toInt ≤ (sn S : Int) - 1)) with h3 | h3'
  · rw [decide_eq_false h3, if_pos bI_f, if_neg (fun q => h3 q.2.1)]
    exact bad rfl rfl
  have h3 := Decidable.not_not.mp h3'
  rw [decide_eq_true h3, if_neg bI_t]
  rcases Decidable.em (¬ (0 ≤ x3.toInt ∧ x3.toInt ≤ (sn S : Int) - 1)) with h4 | h4'
  · rw [decide_eq_false h4, if_pos bI_f, if_neg (fun q => h4 q.2.2.1)]
    exact bad rfl rfl
  have h4 := Decidable.not_not.mp h4'
  rw [decide_eq_true h4, if_neg bI_t]
  -- what is left when all is well
  have fine : (0 ≤ x4.toInt ∧ x4.toInt ≤ (sn S : Int) - 1) → b = true → ∃ c : Int32, (if sm S < 6 then some (0 : Int32) else some (-2139095052)) = some c ∧ (if (0 ≤ x1.toInt ∧ x1.toInt ≤ 5) ∧ (0 ≤ x2.toInt ∧ x2.toInt ≤ (sn S : Int) - 1) ∧ (0 ≤ x3.toInt ∧ x3.toInt ≤ (sn S : Int) - 1) ∧ b = true then (if sm S < 6 then some (0 : Int32) else some (-2139095052)) else some (-2139095050)) = some c ∧ ((c = 0 ∧ sm S < 6 ∧ ∃ k x y z : Nat, k ≤ 5 ∧ x < sn S ∧ y < sn S ∧ z < sn S ∧ x1 = nI k ∧ x2 = nI x ∧ x3 = nI y ∧ x4 = nI z) ∨ c = -2139095050 ∨ c = -2139095052) := fun h5 hb => by
    have hall : (0 ≤ x1.toInt ∧ x1.toInt ≤ 5) ∧ (0 ≤ x2.toInt ∧ x2.toInt ≤ (sn S : Int) - 1) ∧ (0 ≤ x3.toInt ∧ x3.toInt ≤ (sn S : Int) - 1) ∧ b = true := ⟨⟨by omega, by omega⟩, h3, h4, hb⟩
    rw [if_pos hall]
    by_cases h6 : sm S < 6
    · rw [if_pos h6]
      obtain ⟨k, hk, ek⟩ := nI_at (n := 6) (x := x1) (by omega) (by omega)
      obtain ⟨x, hx, ex⟩ := nI_at (x := x2) hn h3
      obtain ⟨y, hy, ey⟩ := nI_at (x := x3) hn h4
      obtain ⟨z, hz, ez⟩ := nI_at (x := x4) hn h5
      exact ⟨0, rfl, rfl, Or.inl ⟨rfl, h6, k, x, y, z, by omega, hx, hy, hz, ek, ex, ey, ez⟩⟩
    · rw [if_neg h6]
      exact ⟨_, rfl, rfl, Or.inr (Or.inr rfl)⟩
  by_cases g : 3 ≤ x1.toInt
  · rw [if_pos ((i_ge (c := 3) (C := 3) rfl).mpr g)]
    by_cases g0 : x4.toInt = 0
    · rw [if_pos ((i_eq (c := 0) (C := 0) rfl).mpr g0)]
      exact fine (by omega) (hb2.mpr (Or.inl ⟨g, g0⟩))
    · rw [if_neg (fun q => g0 ((i_eq (c := 0) (C := 0) rfl).mp q)), if_neg (fun q => by
        have := hb2.mp q.2.2.2
        omega)]
      exact bad rfl rfl
  · rw [if_neg (fun q => g ((i_ge (c := 3) (C := 3) rfl).mp q))]
    by_cases h5 : 0 ≤ x4.toInt ∧ x4.toInt ≤ (sn S : Int) - 1
    · rw [decide_eq_true h5, if_neg bI_t]
      exact fine h5 (hb2.mpr (Or.inr ⟨by omega, h5⟩))
    · rw [decide_eq_false h5, if_pos bI_f, if_neg (fun q => by
        have := hb2.mp q.2.2.2
        omega)]
      exact bad rfl rfl
