/-! ===== one rule cuts: class and reference leave the same ===== -/
def both (n : Nat) (B B' : aB) (fc : Int32 → Int32 → (Nat → Int32) → (Nat → Int32) → Option (Int32 × Int32 × (Nat → Int32) × (Nat → Int32))) (fr : Int32 → Int32 → (Nat → Int32) → Option (Int32 × Int32 × (Nat → Int32))) : Prop :=
  aOK n B' ∧ (∀ cut empty vl vh, aC n B cut empty vl vh → ∃ c' e' l' h', fc cut empty vl vh = some (c', e', l', h') ∧ aC n B' c' e' l' h') ∧ (∀ empty cut box, aR n B empty cut box → ∃ e' c' b', fr empty cut box = some (e', c', b') ∧ aR n B' e' c' b')
theorem o_b4_some {A1 A2 A3 A4 β : Type} (a1 : A1) (a2 : A2) (a3 : A3) (a4 : A4) (k : A1 → A2 → A3 → A4 → Option β) : o_b4 (some (a1, a2, a3, a4)) k = k a1 a2 a3 a4 := rfl
theorem o_b3_some {A1 A2 A3 β : Type} (a1 : A1) (a2 : A2) (a3 : A3) (k : A1 → A2 → A3 → Option β) : o_b3 (some (a1, a2, a3)) k = k a1 a2 a3 := rfl
theorem aC_l {n u : Nat} {B : aB} {c e : Int32} {vl vh : Nat → Int32} (h : aC n B c e vl vh) (hu : u < n) : vl u = Int32.ofInt (B.1 u) := (h.2.2 u hu).1
theorem aC_h {n u : Nat} {B : aB} {c e : Int32} {vl vh : Nat → Int32} (h : aC n B c e vl vh) (hu : u < n) : vh u = Int32.ofInt (B.2.1 u) := (h.2.2 u hu).2
theorem aC_e {n : Nat} {B : aB} {c e : Int32} {vl vh : Nat → Int32} (h : aC n B c e vl vh) : e = 0 ↔ B.2.2.2 = false := by rw [h.2.1]; exact bI_0
theorem aR_e {n : Nat} {B : aB} {c e : Int32} {box : Nat → Int32} (h : aR n B e c box) : e = 0 ↔ B.2.2.2 = false := by rw [h.2.1]; exact bI_0
theorem aLeave_e {u : Nat} {f t : Int} {B : aB} (h : ¬ B.2.2.2 = false) : aLeave u f t B = B := by
  unfold aLeave
  rw [if_pos (by simpa using h)]
theorem iI_m1 (a : Int) : (-1 : Int32) - Int32.ofInt a = Int32.ofInt (-1 - a) := by
  rw [Int32.ofInt_sub]
  rfl
theorem iI_p1 (a : Int) : Int32.ofInt a + 1 = Int32.ofInt (a + 1) := (Int32.ofInt_add a 1).symm
theorem iI_d1 (a : Int) : Int32.ofInt a - 1 = Int32.ofInt (a - 1) := (Int32.ofInt_sub a 1).symm
theorem jI_m1 (a : Int) : (-1 : Int64) - Int64.ofInt a = Int64.ofInt (-1 - a) := by
  rw [Int64.ofInt_sub]
  rfl
theorem jI_p1 (a : Int) : Int64.ofInt a + 1 = Int64.ofInt (a + 1) := (Int64.ofInt_add a 1).symm
theorem jI_d1 (a : Int) : Int64.ofInt a - 1 = Int64.ofInt (a - 1) := (Int64.ofInt_sub a 1).symm
theorem aOK_in {n u : Nat} {B : aB} (h : aOK n B) (hu : u < n) : -2139095040 ≤ B.1 u ∧ B.1 u ≤ B.2.1 u ∧ B.2.1 u ≤ 2139095039 := by
  obtain ⟨h1, h2, h3⟩ := h u hu
  unfold isP at h1 h2
  omega
/-! turned -/
def aTurned (x y : Nat) (B : aB) : aB := aLeave x (-1 - (aLeave y (-1 - B.2.1 x) (-1 - B.1 x) B).2.1 y) (-1 - (aLeave y (-1 - B.2.1 x) (-1 - B.1 x) B).1 y) (aLeave y (-1 - B.2.1 x) (-1 - B.1 x) B)
theorem y_keepsTurned {n u o : Nat} {B : aB} {cut empty : Int32} {box : Nat → Int32} (hn : n ≤ 6) (hu : u < n) (ho : o < n) (hB : aOK n B) (hR : aR n B empty cut box) : ∃ e' c' b', f_X8_keepsTurned empty cut box (nI u) (nI o) = some (e', c', b') ∧ aR n (aLeave u (-1 - B.2.1 o) (-1 - B.1 o) B) e' c' b' := by
  have hb := aOK_in hB ho
  unfold f_X8_keepsTurned
  by_cases h0 : B.2.2.2 = false
  · rw [if_pos ((aR_e hR).mpr h0), y_high hn ho hR, o_b1_some, y_low hn ho hR, o_b1_some, iI_64 (by omega) (by omega), iI_64 (by omega) (by omega), jI_m1, jI_m1]
    obtain ⟨e', c', b', he, hr⟩ := y_keeps (f := -1 - B.2.1 o) (t := -1 - B.1 o) hn hu hB hR (by omega) (by omega) (by omega) (by omega)
    rw [he, o_b3_some]
    exact ⟨_, _, _, rfl, hr⟩
  · rw [if_neg (fun q => h0 ((aR_e hR).mp q)), aLeave_e h0]
    exact ⟨_, _, _, rfl, hR⟩
theorem cut_turned {n x y : Nat} {B : aB} (hn : n ≤ 6) (hx : x < n) (hy : y < n) (hB : aOK n B) : both n B (aTurned x y B) (fun c e l h => o_b4 (f_X0_cutTurned c e h l (nI x) (nI y)) (fun c' e' h' l' => some (c', e', l', h'))) (fun e c b => o_b3 (f_X8_keepsTurned e c b (nI y) (nI x)) (fun e1 c1 b1 => f_X8_keepsTurned e1 c1 b1 (nI x) (nI y))) := by
  have hB1 : aOK n (aLeave y (-1 - B.2.1 x) (-1 - B.1 x) B) := aLeave_ok hB
  refine ⟨aLeave_ok hB1, fun cut empty vl vh hC => ?_, fun empty cut box hR => ?_⟩
  · have hb := aOK_in hB hx
    have hb1 := aOK_in hB1 hy
    obtain ⟨c1, e1, l1, h1, he1, hC1⟩ := z_leave (f := -1 - B.2.1 x) (t := -1 - B.1 x) hn hy hB hC (by omega) (by omega) (by omega) (by omega)
    obtain ⟨c2, e2, l2, h2, he2, hC2⟩ := z_leave (f := -1 - (aLeave y (-1 - B.2.1 x) (-1 - B.1 x) B).2.1 y) (t := -1 - (aLeave y (-1 - B.2.1 x) (-1 - B.1 x) B).1 y) hn hx hB1 hC1 (by omega) (by omega) (by omega) (by omega)
    refine ⟨c2, e2, l2, h2, ?_, hC2⟩
    show o_b4 (f_X0_cutTurned cut empty vh vl (nI x) (nI y)) _ = _
    unfold f_X0_cutTurned
    rw [o_in6 hx hn, o_in6 hx hn, z_cl hx hn, aC_l hC hx, aC_h hC hx, iI_m1, iI_m1, he1, o_b4_some, o_in6 hy hn, o_in6 hy hn, z_cl hy hn, aC_l hC1 hy, aC_h hC1 hy, iI_m1, iI_m1, he2, o_b4_some, o_b4_some]
  · obtain ⟨e1, c1, b1, he1, hR1⟩ := y_keepsTurned hn hy hx hB hR
    obtain ⟨e2, c2, b2, he2, hR2⟩ := y_keepsTurned hn hx hy hB1 hR1
    refine ⟨e2, c2, b2, ?_, hR2⟩
    show o_b3 (f_X8_keepsTurned empty cut box (nI y) (nI x)) _ = _
    rw [he1, o_b3_some, he2]
/-! same -/
def fo (l : Int) : Int := if l = 0 then -1 else l
def la (h : Int) : Int := if h = -1 then 0 else h
theorem z_rank {a : Int} (h1 : -2147483000 ≤ a) (h2 : a ≤ 2147483000) : f_X4_rank (Int32.ofInt a) = some (Int32.ofInt (if a < 0 then a + 1 else a)) := by
  unfold f_X4_rank
  have hi := z_0le (p := a) (by omega) (by omega)
  by_cases h : a < 0
  · rw [if_neg (fun q => hi.mp q h), if_pos h, iI_p1]
  · rw [if_pos (hi.mpr h), if_neg h]
theorem z_first {a : Int} (h1 : -2147483000 ≤ a) (h2 : a ≤ 2147483000) : f_X4_firstOfRank (Int32.ofInt a) = some (Int32.ofInt (if 0 < a then a else a - 1)) := by
  unfold f_X4_firstOfRank
  have hi : ((0 : Int32) < Int32.ofInt a) ↔ 0 < a := iI_lt (a := 0) (by decide) (by decide) (by omega) (by omega)
  by_cases h : 0 < a
  · rw [if_pos (hi.mpr h), if_pos h]
  · rw [if_neg (fun q => h (hi.mp q)), if_neg h, iI_d1]
theorem z_last {a : Int} (h1 : -2147483000 ≤ a) (h2 : a ≤ 2147483000) : f_X4_lastOfRank (Int32.ofInt a) = some (Int32.ofInt (if a < 0 then a - 1 else a)) := by
  unfold f_X4_lastOfRank
  have hi := z_0le (p := a) (by omega) (by omega)
  by_cases h : a < 0
  · rw [if_neg (fun q => hi.mp q h), if_pos h, iI_d1]
  · rw [if_pos (hi.mpr h), if_neg h]
theorem z_fo {a : Int} (h1 : -2147482000 ≤ a) (h2 : a ≤ 2147482000) {β : Type} (k : Int32 → Option β) : o_b1 (f_X4_rank (Int32.ofInt a)) (fun r => o_b1 (f_X4_firstOfRank r) k) = k (Int32.ofInt (fo a)) := by
  rw [z_rank (by omega) (by omega), o_b1_some, z_first (by split <;> omega) (by split <;> omega), o_b1_some]
  refine congrArg k (congrArg Int32.ofInt ?_)
  unfold fo
  repeat' split
  all_goals omega
theorem z_la {a : Int} (h1 : -2147482000 ≤ a) (h2 : a ≤ 2147482000) {β : Type} (k : Int32 → Option β) : o_b1 (f_X4_rank (Int32.ofInt a)) (fun r => o_b1 (f_X4_lastOfRank r) k) = k (Int32.ofInt (la a)) := by
  rw [z_rank (by omega) (by omega), o_b1_some, z_last (by split <;> omega) (by split <;> omega), o_b1_some]
  refine congrArg k (congrArg Int32.ofInt ?_)
  unfold la
  repeat' split
  all_goals omega
def aSame (x y : Nat) (B : aB) : aB := aLeave y (fo ((aLeave x (fo (B.1 y)) (la (B.2.1 y)) B).1 x)) (la ((aLeave x (fo (B.1 y)) (la (B.2.1 y)) B).2.1 x)) (aLeave x (fo (B.1 y)) (la (B.2.1 y)) B)
theorem fo_in {a : Int} (h1 : -2139095040 ≤ a) (h2 : a ≤ 2139095039) : -2139095040 ≤ fo a ∧ fo a ≤ 2139095039 := by
  unfold fo
  split <;> omega
theorem la_in {a : Int} (h1 : -2139095040 ≤ a) (h2 : a ≤ 2139095039) : -2139095040 ≤ la a ∧ la a ≤ 2139095039 := by
  unfold la
  split <;> omega
theorem y_keepsSame {n u o : Nat} {B : aB} {cut empty : Int32} {box : Nat → Int32} (hn : n ≤ 6) (hu : u < n) (ho : o < n) (hB : aOK n B) (hR : aR n B empty cut box) : ∃ e' c' b', f_X8_keepsSame empty cut box (nI u) (nI o) = some (e', c', b') ∧ aR n (aLeave u (fo (B.1 o)) (la (B.2.1 o)) B) e' c' b' := by
  have hb := aOK_in hB ho
  have i1 := fo_in (a := B.1 o) (by omega) (by omega)
  have i2 := la_in (a := B.2.1 o) (by omega) (by omega)
  unfold f_X8_keepsSame
  by_cases h0 : B.2.2.2 = false
  · rw [if_pos ((aR_e hR).mpr h0), y_low hn ho hR, o_b1_some, y_high hn ho hR, o_b1_some]
    obtain ⟨e', c', b', he, hr⟩ := y_keeps (f := fo (B.1 o)) (t := la (B.2.1 o)) hn hu hB hR (by omega) (by omega) (by omega) (by omega)
    have k48 : f_X8_keepsSame_B48 empty cut box (nI u) (Int64.ofInt (fo (B.1 o))) (Int64.ofInt (la (B.2.1 o))) = some (e', c', b') := by
      unfold f_X8_keepsSame_B48
      rw [he, o_b3_some]
    have k35 : f_X8_keepsSame_B35 empty cut box (Int32.ofInt (B.2.1 o)) (nI u) (Int64.ofInt (fo (B.1 o))) = some (e', c', b') := by
      unfold f_X8_keepsSame_B35
      have hi : (Int32.ofInt (B.2.1 o) = (-1)) ↔ B.2.1 o = -1 := iI_eq (b := -1) (by omega) (by omega) (by decide) (by decide)
      by_cases h : B.2.1 o = -1
      · have e : la (B.2.1 o) = 0 := by unfold la; rw [if_pos h]
        rw [e] at k48
        rw [if_pos (hi.mpr h)]
        exact k48
      · have e : la (B.2.1 o) = B.2.1 o := by unfold la; rw [if_neg h]
        rw [e] at k48
        rw [if_neg (fun q => h (hi.mp q)), iI_64 (by omega) (by omega)]
        exact k48
    have hi : (Int32.ofInt (B.1 o) = 0) ↔ B.1 o = 0 := iI_eq (b := 0) (by omega) (by omega) (by decide) (by decide)
    by_cases h : B.1 o = 0
    · have e : fo (B.1 o) = -1 := by unfold fo; rw [if_pos h]
      rw [e] at k35
      rw [if_pos (hi.mpr h)]
      exact ⟨_, _, _, k35, hr⟩
    · have e : fo (B.1 o) = B.1 o := by unfold fo; rw [if_neg h]
      rw [e] at k35
      rw [if_neg (fun q => h (hi.mp q)), iI_64 (by omega) (by omega)]
      exact ⟨_, _, _, k35, hr⟩
  · rw [if_neg (fun q => h0 ((aR_e hR).mp q)), aLeave_e h0]
    exact ⟨_, _, _, rfl, hR⟩
theorem cut_same {n x y : Nat} {B : aB} (hn : n ≤ 6) (hx : x < n) (hy : y < n) (hB : aOK n B) : both n B (aSame x y B) (fun c e l h => f_X0_cutSame c e l h (nI x) (nI y)) (fun e c b => o_b3 (f_X8_keepsSame e c b (nI x) (nI y)) (fun e1 c1 b1 => f_X8_keepsSame e1 c1 b1 (nI y) (nI x))) := by
  have hB1 : aOK n (aLeave x (fo (B.1 y)) (la (B.2.1 y)) B) := aLeave_ok hB
  refine ⟨aLeave_ok hB1, fun cut empty vl vh hC => ?_, fun empty cut box hR => ?_⟩
  · have hb := aOK_in hB hy
    have hb1 := aOK_in hB1 hx
    have i1 := fo_in (a := B.1 y) (by omega) (by omega)
    have i2 := la_in (a := B.2.1 y) (by omega) (by omega)
    obtain ⟨c1, e1, l1, h1, he1, hC1⟩ := z_leave (f := fo (B.1 y)) (t := la (B.2.1 y)) hn hx hB hC (by omega) (by omega) (by omega) (by omega)
    have i3 := fo_in (a := (aLeave x (fo (B.1 y)) (la (B.2.1 y)) B).1 x) (by omega) (by omega)
    have i4 := la_in (a := (aLeave x (fo (B.1 y)) (la (B.2.1 y)) B).2.1 x) (by omega) (by omega)
    obtain ⟨c2, e2, l2, h2, he2, hC2⟩ := z_leave (f := fo ((aLeave x (fo (B.1 y)) (la (B.2.1 y)) B).1 x)) (t := la ((aLeave x (fo (B.1 y)) (la (B.2.1 y)) B).2.1 x)) hn hy hB1 hC1 (by omega) (by omega) (by omega) (by omega)
    refine ⟨c2, e2, l2, h2, ?_, hC2⟩
    show f_X0_cutSame cut empty vl vh (nI x) (nI y) = _
    unfold f_X0_cutSame
    rw [o_in6 hy hn, z_cl hy hn, aC_l hC hy, z_fo (by omega) (by omega), o_in6 hy hn, aC_h hC hy, z_la (by omega) (by omega), he1, o_b4_some, o_in6 hx hn, z_cl hx hn, aC_l hC1 hx, z_fo (by omega) (by omega), o_in6 hx hn, aC_h hC1 hx, z_la (by omega) (by omega), he2, o_b4_some]
  · obtain ⟨e1, c1, b1, he1, hR1⟩ := y_keepsSame hn hx hy hB hR
    obtain ⟨e2, c2, b2, he2, hR2⟩ := y_keepsSame hn hy hx hB1 hR1
    refine ⟨e2, c2, b2, ?_, hR2⟩
    show o_b3 (f_X8_keepsSame empty cut box (nI x) (nI y)) _ = _
    rw [he1, o_b3_some, he2]
