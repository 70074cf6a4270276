/-! ===== orders done by both; the text read ===== -/
theorem o_b9_some {A1 A2 A3 A4 A5 A6 A7 A8 A9 β : Type} (a1 : A1) (a2 : A2) (a3 : A3) (a4 : A4) (a5 : A5) (a6 : A6) (a7 : A7) (a8 : A8) (a9 : A9) (k : A1 → A2 → A3 → A4 → A5 → A6 → A7 → A8 → A9 → Option β) : o_b9 (some (a1, a2, a3, a4, a5, a6, a7, a8, a9)) k = k a1 a2 a3 a4 a5 a6 a7 a8 a9 := rfl
theorem obeys_in {N i : Nat} {number : Nat → Int32} {un ru : Int32} {kd x y z l h : Nat → Int32} {c : Int32} (hi : i < 60) : f_X7_obeys N number un ru kd x y z l h c (nI (4 * i)) =
    if c = 107 then
      o_b1 (f_X3_refusalOfRule un ru (number (4 * i)) (number (4 * i + 1)) (number (4 * i + 2)) (number (4 * i + 3))) (fun (r127 : Int32) =>
      if r127 = 0 then
        o_b6 (f_X3_addRule ru kd x y z (number (4 * i)) (number (4 * i + 1)) (number (4 * i + 2)) (number (4 * i + 3))) (fun (r142 : Int32) (ru' : Int32) (kd' : Nat → Int32) (x' : Nat → Int32) (y' : Nat → Int32) (z' : Nat → Int32) =>
        if r142 < 0 then some (0, un, ru', kd', x', y', z', l, h) else some (1, un, ru', kd', x', y', z', l, h))
      else some (0, un, ru, kd, x, y, z, l, h))
    else if c = 117 then
      o_b1 (f_X1_ofWhole (number (4 * i))) (fun (r78 : Int32) =>
      o_b1 (f_X1_ofWhole (number (4 * i + 1))) (fun (r85 : Int32) =>
      o_b1 (f_X3_refusalOfUnknown un r78 r85) (fun (r95 : Int32) =>
      if r95 = 0 then
        o_b4 (f_X3_addUnknown un l h r78 r85) (fun (r106 : Int32) (un' : Int32) (l' : Nat → Int32) (h' : Nat → Int32) =>
        if r106 < 0 then some (0, un', ru, kd, x, y, z, l', h') else some (1, un', ru, kd, x, y, z, l', h'))
      else some (0, un, ru, kd, x, y, z, l, h))))
    else
      o_b1 (f_X3_hasRule ru (number (4 * i))) (fun (r157 : Int32) =>
      if r157 = 0 then some (0, un, ru, kd, x, y, z, l, h)
      else
        o_b6 (f_X3_dropRule N ru kd x y z (number (4 * i))) (fun (r166 : Int32) (ru' : Int32) (kd' : Nat → Int32) (x' : Nat → Int32) (y' : Nat → Int32) (z' : Nat → Int32) =>
        if r166 < 0 then some (0, un, ru', kd', x', y', z', l, h) else some (1, un, ru', kd', x', y', z', l, h))) := by
  unfold f_X7_obeys
  simp only [o_nm]
  rw [show (2 : Int32) = nI 2 from rfl, show (3 : Int32) = nI 3 from rfl, nI_1, nI_add, nI_add, o_inN (by omega) (by decide), o_inN (by omega) (by decide), o_inN (by omega) (by decide), o_inN (by omega) (by decide), nI_clamp (by omega), nI_clamp (by omega), nI_clamp (by omega), nI_clamp (by omega)]
/-- one order that isn't a cut -/
theorem obey_both {S : mS} {N i : Nat} {c : Int32} {un ru : Int32} {l h kd x y z all number numbers : Nat → Int32} (hS : mOK S) (hN : 40 ≤ N) (hC : mC S un ru l h kd x y z) (hR : mR S all) (hc : c = 117 ∨ c = 107 ∨ c = 120) (hi : i < 60) (hv : ∀ k, k < nums c → numbers k = number (4 * i + k)) (e cu : Int32) (box : Nat → Int32) :
    ∃ (ok : Bool) (un' ru' : Int32) (kd' x' y' z' l' h' all' : Nat → Int32), f_X7_obeys N number un ru kd x y z l h c (nI (4 * i)) = some (bI ok, un', ru', kd', x', y', z', l', h') ∧ f_X8_does_ N numbers e cu 0 all box c = some (e, cu, bI (!ok), all', box) ∧ (ok = true → ∃ S', mOK S' ∧ mC S' un' ru' l' h' kd' x' y' z' ∧ mR S' all') := by
  obtain ⟨hun, hru, -, -⟩ := id hC
  rw [obeys_in hi]
  unfold f_X8_does_
  rcases hc with rfl | rfl | rfl
  · have v0 : numbers 0 = number (4 * i) := hv 0 (by decide)
    have v1 : numbers 1 = number (4 * i + 1) := hv 1 (by decide)
    obtain ⟨w0, p0, q0⟩ := whole_both (number (4 * i))
    obtain ⟨w1, p1, q1⟩ := whole_both (number (4 * i + 1))
    rw [if_neg (by decide), if_pos rfl, if_pos rfl, p0, o_b1_some, p1, o_b1_some, show (0 : Int32).toNatClampNeg = 0 from rfl, show (1 : Int32).toNatClampNeg = 1 from rfl, v0, v1, q0, o_b1_some, q1, o_b1_some, show ∀ k : Option (Int32 × Int32 × Int32 × (Nat → Int32) × (Nat → Int32)), o_in 0 4 k = k from o_inN (i := 0) (by decide) (by decide), show ∀ k : Option (Int32 × Int32 × Int32 × (Nat → Int32) × (Nat → Int32)), o_in 1 4 k = k from o_inN (i := 1) (by decide) (by decide)]
    obtain ⟨d, d1, d2, d3⟩ := can_unknown hS hR (Int32.ofInt w0) (Int32.ofInt w1)
    rw [hun, d1, o_b1_some, d2, o_b1_some]
    unfold f_X8_does__B43
    rw [show o_zb 0 = true from rfl, show o_zb 1 = true from rfl, o_ck_true, o_ck_true]
    rw [hun] at hC
    rcases d3 with ⟨h0, s1, s2, s3, s4⟩ | h0 | h0
    · obtain ⟨a1, a2, a3⟩ := addU hS s1 s2 s3 s4
      obtain ⟨l', h', b1, b2⟩ := a2 ru l h kd x y z hC
      obtain ⟨all', b3, b4⟩ := a3 all hR
      rw [← Int32_of, ← Int32_of] at b1 b3
      rw [h0, if_pos rfl, if_pos (by decide), if_pos rfl, b1, o_b4_some, b3, o_b2_some, if_neg (nI_pos (by omega))]
      exact ⟨true, _, _, _, _, _, _, _, _, _, rfl, rfl, fun _ => ⟨_, a1, b2, b4⟩⟩
    · rw [h0, if_neg (by decide), if_neg (by decide), if_neg (by decide)]
      exact ⟨false, _, _, _, _, _, _, _, _, _, rfl, rfl, fun q => by cases q⟩
    · rw [h0, if_neg (by decide), if_neg (by decide), if_neg (by decide)]
      exact ⟨false, _, _, _, _, _, _, _, _, _, rfl, rfl, fun q => by cases q⟩
  · have v0 : numbers 0 = number (4 * i) := hv 0 (by decide)
    have v1 : numbers 1 = number (4 * i + 1) := hv 1 (by decide)
    have v2 : numbers 2 = number (4 * i + 2) := hv 2 (by decide)
    have v3 : numbers 3 = number (4 * i + 3) := hv 3 (by decide)
    unfold f_X8_does__B111
    rw [if_pos rfl, if_neg (by decide), if_pos rfl, show (0 : Int32).toNatClampNeg = 0 from rfl, show (1 : Int32).toNatClampNeg = 1 from rfl, show (2 : Int32).toNatClampNeg = 2 from rfl, show (3 : Int32).toNatClampNeg = 3 from rfl, v0, v1, v2, v3, show o_zb 0 = true from rfl, show o_zb 1 = true from rfl, o_ck_true, o_ck_true]
    have i0 : ∀ k : Option (Int32 × Int32 × Int32 × (Nat → Int32) × (Nat → Int32)), o_in 0 4 k = k := o_inN (i := 0) (by decide) (by decide)
    have i1 : ∀ k : Option (Int32 × Int32 × Int32 × (Nat → Int32) × (Nat → Int32)), o_in 1 4 k = k := o_inN (i := 1) (by decide) (by decide)
    have i2 : ∀ k : Option (Int32 × Int32 × Int32 × (Nat → Int32) × (Nat → Int32)), o_in 2 4 k = k := o_inN (i := 2) (by decide) (by decide)
    have i3 : ∀ k : Option (Int32 × Int32 × Int32 × (Nat → Int32) × (Nat → Int32)), o_in 3 4 k = k := o_inN (i := 3) (by decide) (by decide)
    rw [i0, i1, i2, i3, i0, i1, i2, i3]
    obtain ⟨d, d1, d2, d3⟩ := can_rule hS hR (number (4 * i)) (number (4 * i + 1)) (number (4 * i + 2)) (number (4 * i + 3))
    rw [hun, hru, d1, o_b1_some, d2, o_b1_some]
    rw [hun, hru] at hC
    rcases d3 with ⟨h0, m6, k, x1, y1, z1, s1, s2, s3, s4, t1, t2, t3, t4⟩ | h0 | h0
    · obtain ⟨a1, a2, a3⟩ := addR hS s1 s2 s3 s4 m6
      obtain ⟨kd', x', y', z', b1, b2⟩ := a2 _ l h kd x y z hC
      obtain ⟨all', b3, b4⟩ := a3 all hR
      rw [h0, if_pos rfl, if_pos (by decide), if_pos rfl, t1, t2, t3, t4, b1, o_b6_some, b3, o_b2_some, if_neg (nI_pos (by omega))]
      exact ⟨true, _, _, _, _, _, _, _, _, _, rfl, rfl, fun _ => ⟨_, a1, b2, b4⟩⟩
    · rw [h0, if_neg (by decide), if_neg (by decide), if_neg (by decide)]
      exact ⟨false, _, _, _, _, _, _, _, _, _, rfl, rfl, fun q => by cases q⟩
    · rw [h0, if_neg (by decide), if_neg (by decide), if_neg (by decide)]
      exact ⟨false, _, _, _, _, _, _, _, _, _, rfl, rfl, fun q => by cases q⟩
  · have v0 : numbers 0 = number (4 * i) := hv 0 (by decide)
    unfold f_X8_does__B182
    rw [if_neg (by decide), if_neg (by decide), if_neg (by decide), if_neg (by decide), if_pos rfl, show (0 : Int32).toNatClampNeg = 0 from rfl, v0, show o_zb 0 = true from rfl, show o_zb 1 = true from rfl, o_ck_true, o_ck_true]
    have i0 : ∀ k : Option (Int32 × Int32 × Int32 × (Nat → Int32) × (Nat → Int32)), o_in 0 4 k = k := o_inN (i := 0) (by decide) (by decide)
    rw [i0, i0, hru, z_hasR hS.2.1, o_b1_some, y_hasR hS hR, o_b1_some]
    rw [hru] at hC
    by_cases g : 0 ≤ (number (4 * i)).toInt ∧ (number (4 * i)).toInt ≤ (sm S : Int) - 1
    · obtain ⟨k, hk, hke⟩ := nI_at hS.2.1 g
      have m6 := hS.2.1
      obtain ⟨a1, a2, a3⟩ := dropR (N := N) hN hS hk
      obtain ⟨kd', x', y', z', b1, b2⟩ := a2 _ l h kd x y z hC
      obtain ⟨all', b3, b4⟩ := a3 all hR
      rw [decide_eq_true g, if_neg bI_t, if_neg bI_t, if_pos rfl, hke, b1, o_b6_some, b3, o_b2_some, if_neg (nI_pos (by omega))]
      exact ⟨true, _, _, _, _, _, _, _, _, _, rfl, rfl, fun _ => ⟨_, a1, b2, b4⟩⟩
    · rw [decide_eq_false g, if_pos bI_f, if_pos bI_f, if_neg (by decide)]
      exact ⟨false, _, _, _, _, _, _, _, _, _, rfl, rfl, fun q => by cases q⟩
/-! rows swapped and copied -/
theorem swaps_loop {N : Nat} : ∀ (j k F : Nat) (all before : Nat → Int32), k + j = 38 → j < F → ∃ all' before' : Nat → Int32, f_X8_swaps_L2 N F all before (nI k) = some (all', before') ∧ (∀ x, x < k → all' x = all x ∧ before' x = before x) ∧ (∀ x, k ≤ x → x < 38 → all' x = before x ∧ before' x = all x) := by
  intro j
  induction j with
  | zero =>
    intro k F all before hk hF
    obtain ⟨F', rfl⟩ : ∃ F', F = F' + 1 := ⟨F - 1, by omega⟩
    refine ⟨all, before, ?_, fun x _ => ⟨rfl, rfl⟩, fun x h1 h2 => absurd h1 (by omega)⟩
    show f_X8_swaps_C2 N (f_X8_swaps_L2 N F') all before (nI k) = _
    unfold f_X8_swaps_C2
    rw [if_pos (show (38 : Int32) ≤ nI k from (nI_leI (a := 38) (by decide) (by omega)).mpr (by omega))]
  | succ j ih =>
    intro k F all before hk hF
    obtain ⟨F', rfl⟩ : ∃ F', F = F' + 1 := ⟨F - 1, by omega⟩
    obtain ⟨all', before', h1, h2, h3⟩ := ih (k + 1) F' (upd all k (before k)) (upd before k (all k)) (by omega) (by omega)
    refine ⟨all', before', ?_, fun x hx => ?_, fun x hx1 hx2 => ?_⟩
    · have : ¬ (38 : Int32) ≤ nI k := fun x => by
        have := (nI_leI (a := 38) (b := k) (by decide) (by omega)).mp x
        omega
      show f_X8_swaps_C2 N (f_X8_swaps_L2 N F') all before (nI k) = _
      unfold f_X8_swaps_C2
      simp only [o_nm]
      rw [if_neg this, o_inN (by omega) (by decide), o_inN (by omega) (by decide), o_inN (by omega) (by decide), o_inN (by omega) (by decide), nI_clamp (by omega), nI_1]
      exact h1
    · rw [(h2 x (by omega)).1, (h2 x (by omega)).2, pk_un (by omega), pk_un (by omega)]
      exact ⟨rfl, rfl⟩
    · by_cases g : x = k
      · rw [g, (h2 k (by omega)).1, (h2 k (by omega)).2, pk_us, pk_us]
        exact ⟨rfl, rfl⟩
      · rw [(h3 x (by omega) hx2).1, (h3 x (by omega) hx2).2, pk_un g, pk_un g]
        exact ⟨rfl, rfl⟩
theorem swaps_both {N : Nat} (hN : 200 ≤ N) (all before : Nat → Int32) : ∃ all' before' : Nat → Int32, f_X8_swaps N all before = some (all', before') ∧ (∀ x, x < 38 → all' x = before x) ∧ (∀ x, x < 38 → before' x = all x) := by
  obtain ⟨a, b, h1, -, h3⟩ := swaps_loop (N := N) 38 0 N all before (by omega) (by omega)
  exact ⟨a, b, h1, fun x hx => (h3 x (by omega) hx).1, fun x hx => (h3 x (by omega) hx).2⟩
theorem copy46 {N tn : Nat} {tb : Nat → Int32} {states e cu at' st : Int32} {all box numbers past : Nat → Int32} : ∀ (j k F : Nat) (before : Nat → Int32), k + j = 38 → j < F → ∃ before' : Nat → Int32, f_X8_reads_L46 N (nI tn) tb F states e cu at' st all box numbers before past (nI k) = f_X8_reads_L82 N (nI tn) tb N states e cu 0 0 all box numbers before' past 0 ∧ (∀ x, x < k → before' x = before x) ∧ (∀ x, k ≤ x → x < 38 → before' x = all x) := by
  intro j
  induction j with
  | zero =>
    intro k F before hk hF
    obtain ⟨F', rfl⟩ : ∃ F', F = F' + 1 := ⟨F - 1, by omega⟩
    refine ⟨before, ?_, fun x _ => rfl, fun x h1 h2 => absurd h1 (by omega)⟩
    show f_X8_reads_C46 N (nI tn) tb (f_X8_reads_L46 N (nI tn) tb F') states e cu at' st all box numbers before past (nI k) = _
    unfold f_X8_reads_C46
    rw [if_pos (show (38 : Int32) ≤ nI k from (nI_leI (a := 38) (by decide) (by omega)).mpr (by omega))]
  | succ j ih =>
    intro k F before hk hF
    obtain ⟨F', rfl⟩ : ∃ F', F = F' + 1 := ⟨F - 1, by omega⟩
    obtain ⟨before', h1, h2, h3⟩ := ih (k + 1) F' (upd before k (all k)) (by omega) (by omega)
    refine ⟨before', ?_, fun x hx => ?_, fun x hx1 hx2 => ?_⟩
    · have : ¬ (38 : Int32) ≤ nI k := fun x => by
        have := (nI_leI (a := 38) (b := k) (by decide) (by omega)).mp x
        omega
      show f_X8_reads_C46 N (nI tn) tb (f_X8_reads_L46 N (nI tn) tb F') states e cu at' st all box numbers before past (nI k) = _
      unfold f_X8_reads_C46
      rw [if_neg this, o_inN (by omega) (by decide), o_inN (by omega) (by decide), nI_clamp (by omega), nI_1]
      exact h1
    · rw [h2 x (by omega), pk_un (by omega)]
    · by_cases g : x = k
      · rw [g, h2 k (by omega), pk_us]
      · exact h3 x (by omega) hx2
