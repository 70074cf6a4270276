/-! less -/
def ll (h : Int) : Int := if h = -1 ∨ h = 0 then -2 else h - 1
def fl (l : Int) : Int := if l = -1 ∨ l = 0 then 1 else l + 1
theorem z_ll {a : Int} (h1 : -2147482000 ≤ a) (h2 : a ≤ 2147482000) {β : Type} (k : Int32 → Option β) : o_b1 (f_X4_rank (Int32.ofInt a)) (fun r => o_b1 (f_X4_lastOfRank (r - 1)) k) = k (Int32.ofInt (ll a)) := by
  rw [z_rank (by omega) (by omega), o_b1_some, iI_d1, z_last (by split <;> omega) (by split <;> omega), o_b1_some]
  refine congrArg k (congrArg Int32.ofInt ?_)
  unfold ll
  repeat' split
  all_goals omega
theorem z_fl {a : Int} (h1 : -2147482000 ≤ a) (h2 : a ≤ 2147482000) {β : Type} (k : Int32 → Option β) : o_b1 (f_X4_rank (Int32.ofInt a)) (fun r => o_b1 (f_X4_firstOfRank (r + 1)) k) = k (Int32.ofInt (fl a)) := by
  rw [z_rank (by omega) (by omega), o_b1_some, iI_p1, z_first (by split <;> omega) (by split <;> omega), o_b1_some]
  refine congrArg k (congrArg Int32.ofInt ?_)
  unfold fl
  repeat' split
  all_goals omega
theorem ll_in {a : Int} (h1 : -2139095040 ≤ a) (h2 : a ≤ 2139095039) : -2139095041 ≤ ll a ∧ ll a ≤ 2139095039 := by
  unfold ll
  split <;> omega
theorem fl_in {a : Int} (h1 : -2139095040 ≤ a) (h2 : a ≤ 2139095039) : -2139095040 ≤ fl a ∧ fl a ≤ 2139095040 := by
  unfold fl
  split <;> omega
theorem y_isZero {a : Int} (h1 : -2147483000 ≤ a) (h2 : a ≤ 2147483000) : f_X8_isZero (Int32.ofInt a) = some (if a = -1 ∨ a = 0 then 1 else 0) := by
  unfold f_X8_isZero
  have i1 : (Int32.ofInt a = (-1)) ↔ a = -1 := iI_eq (b := -1) (by omega) (by omega) (by decide) (by decide)
  have i2 : (Int32.ofInt a = 0) ↔ a = 0 := iI_eq (b := 0) (by omega) (by omega) (by decide) (by decide)
  by_cases e1 : a = -1
  · rw [if_pos (i1.mpr e1), if_pos (Or.inl e1)]
  · rw [if_neg (fun q => e1 (i1.mp q))]
    by_cases e2 : a = 0
    · rw [if_pos (i2.mpr e2), if_pos (Or.inr e2)]
    · rw [if_neg (fun q => e2 (i2.mp q)), if_neg (by omega)]
def aLess1 (x y : Nat) (B : aB) : aB := aLeave x (B.1 x) (ll (B.2.1 y)) B
def aLess (x y : Nat) (B : aB) : aB := aLeave y (fl ((aLess1 x y B).1 x)) ((aLess1 x y B).2.1 y) (aLess1 x y B)
theorem aLeave_lo {u : Nat} {f t : Int} {B : aB} (hf : f ≤ B.1 u) : aLeave u f t B = aLeave u (B.1 u) t B := by
  refine aLeave_congr ?_ ?_
  · have : max (B.1 u) f = max (B.1 u) (B.1 u) := by omega
    rw [this]
  · intro _
    exact ⟨by omega, rfl⟩
theorem aLeave_hi {u : Nat} {f t : Int} {B : aB} (ht : B.2.1 u ≤ t) : aLeave u f t B = aLeave u f (B.2.1 u) B := by
  refine aLeave_congr ?_ ?_
  · have : min (B.2.1 u) t = min (B.2.1 u) (B.2.1 u) := by omega
    rw [this]
  · intro _
    exact ⟨rfl, by omega⟩
theorem cut_less {n x y : Nat} {B : aB} (hn : n ≤ 6) (hx : x < n) (hy : y < n) (hB : aOK n B) : both n B (aLess x y B) (fun c e l h => f_X0_cutLess c e l h (nI x) (nI y)) (fun e c b => f_X8_cutsLess e c b (nI x) (nI y)) := by
  have hB1 : aOK n (aLess1 x y B) := aLeave_ok hB
  have hb := aOK_in hB hx
  have hby := aOK_in hB hy
  have hb1 := aOK_in hB1 hx
  have hb1y := aOK_in hB1 hy
  have i1 := ll_in (a := B.2.1 y) (by omega) (by omega)
  have i2 := fl_in (a := (aLess1 x y B).1 x) (by omega) (by omega)
  refine ⟨aLeave_ok hB1, fun cut empty vl vh hC => ?_, fun empty cut box hR => ?_⟩
  · obtain ⟨c1, e1, l1, h1, he1, hC1⟩ := z_leave (f := B.1 x) (t := ll (B.2.1 y)) hn hx hB hC (by omega) (by omega) (by omega) (by omega)
    obtain ⟨c2, e2, l2, h2, he2, hC2⟩ := z_leave (f := fl ((aLess1 x y B).1 x)) (t := (aLess1 x y B).2.1 y) hn hy hB1 hC1 (by omega) (by omega) (by omega) (by omega)
    refine ⟨c2, e2, l2, h2, ?_, hC2⟩
    show f_X0_cutLess cut empty vl vh (nI x) (nI y) = _
    unfold f_X0_cutLess
    have hl1 : l1 x = Int32.ofInt ((aLess1 x y B).1 x) := aC_l hC1 hx
    have hh1 : h1 y = Int32.ofInt ((aLess1 x y B).2.1 y) := aC_h hC1 hy
    rw [o_in6 hx hn, o_in6 hy hn, z_cl hy hn, z_cl hx hn, aC_h hC hy, z_ll (by omega) (by omega), aC_l hC hx, he1, o_b4_some, o_in6 hx hn, hl1, z_fl (by omega) (by omega), o_in6 hy hn, hh1, he2, o_b4_some]
  · obtain ⟨e1, c1, b1, he1, hR1⟩ := y_keeps (f := -2139095040) (t := ll (B.2.1 y)) hn hx hB hR (by omega) (by omega) (by omega) (by omega)
    rw [aLeave_lo (by omega)] at hR1
    have hR1 : aR n (aLess1 x y B) e1 c1 b1 := hR1
    have k28 : ∃ e' c' b', f_X8_cutsLess_B28 empty cut box (nI x) (nI y) (nI x) (-2139095040) (Int64.ofInt (ll (B.2.1 y))) = some (e', c', b') ∧ aR n (aLess x y B) e' c' b' := by
      unfold f_X8_cutsLess_B28
      have he1' : f_X8_keeps empty cut box (nI x) (-2139095040) (Int64.ofInt (ll (B.2.1 y))) = some (e1, c1, b1) := he1
      rw [he1', o_b3_some]
      by_cases h0 : (aLess1 x y B).2.2.2 = false
      · rw [if_pos ((aR_e hR1).mpr h0), y_low hn hx hR1, o_b1_some, y_isZero (by omega) (by omega), o_b1_some]
        obtain ⟨e2, c2, b2, he2, hR2⟩ := y_keeps (f := fl ((aLess1 x y B).1 x)) (t := 2139095039) hn hy hB1 hR1 (by omega) (by omega) (by omega) (by omega)
        rw [aLeave_hi (by omega)] at hR2
        have k64 : f_X8_cutsLess_B64 e1 c1 b1 (nI y) (Int64.ofInt (fl ((aLess1 x y B).1 x))) = some (e2, c2, b2) := by
          unfold f_X8_cutsLess_B64
          have he2' : f_X8_keeps e1 c1 b1 (nI y) (Int64.ofInt (fl ((aLess1 x y B).1 x))) 2139095039 = some (e2, c2, b2) := he2
          rw [he2', o_b3_some]
        by_cases hz : (aLess1 x y B).1 x = -1 ∨ (aLess1 x y B).1 x = 0
        · rw [if_pos hz, if_neg (by decide)]
          have e : fl ((aLess1 x y B).1 x) = 1 := by unfold fl; rw [if_pos hz]
          rw [e] at k64
          exact ⟨_, _, _, k64, hR2⟩
        · rw [if_neg hz, if_pos rfl, iI_64 (by omega) (by omega), jI_p1]
          have e : fl ((aLess1 x y B).1 x) = (aLess1 x y B).1 x + 1 := by unfold fl; rw [if_neg hz]
          rw [e] at k64
          exact ⟨_, _, _, k64, hR2⟩
      · rw [if_neg (fun q => h0 ((aR_e hR1).mp q))]
        refine ⟨_, _, _, rfl, ?_⟩
        unfold aLess
        rw [aLeave_e h0]
        exact hR1
    show ∃ e' c' b', f_X8_cutsLess empty cut box (nI x) (nI y) = some (e', c', b') ∧ _
    unfold f_X8_cutsLess
    rw [y_high hn hy hR, o_b1_some, y_isZero (by omega) (by omega), o_b1_some]
    by_cases hz : B.2.1 y = -1 ∨ B.2.1 y = 0
    · rw [if_pos hz, if_neg (by decide)]
      have e : ll (B.2.1 y) = -2 := by unfold ll; rw [if_pos hz]
      rw [e] at k28
      exact k28
    · rw [if_neg hz, if_pos rfl, iI_64 (by omega) (by omega), jI_d1]
      have e : ll (B.2.1 y) = B.2.1 y - 1 := by unfold ll; rw [if_neg hz]
      rw [e] at k28
      exact k28
/-! most -/
def aAtMost (u o z : Nat) (B : aB) : aB := aLeave u (if B.2.1 o < B.1 z then B.1 z else B.1 u) (B.2.1 z) B
def aMost0 (x y z : Nat) (B : aB) : aB := aLeave z (max (B.1 x) (B.1 y)) (max (B.2.1 x) (B.2.1 y)) B
def aMost (x y z : Nat) (B : aB) : aB := aAtMost y x z (aAtMost x y z (aMost0 x y z B))
theorem y_keepsAtMost {n u o z : Nat} {B : aB} {cut empty : Int32} {box : Nat → Int32} (hn : n ≤ 6) (hu : u < n) (ho : o < n) (hz : z < n) (hB : aOK n B) (hR : aR n B empty cut box) : ∃ e' c' b', f_X8_keepsAtMost empty cut box (nI u) (nI o) (nI z) = some (e', c', b') ∧ aR n (aAtMost u o z B) e' c' b' := by
  have hb := aOK_in hB ho
  have hbz := aOK_in hB hz
  have hbu := aOK_in hB hu
  unfold f_X8_keepsAtMost
  by_cases h0 : B.2.2.2 = false
  · rw [if_pos ((aR_e hR).mpr h0), y_high hn ho hR, o_b1_some, y_low hn hz hR, o_b1_some]
    have hi : (Int32.ofInt (B.1 z) ≤ Int32.ofInt (B.2.1 o)) ↔ B.1 z ≤ B.2.1 o := iI_le (by omega) (by omega) (by omega) (by omega)
    have k35 : ∀ f : Int, -4000000000 ≤ f → f ≤ 4000000000 → ∃ e' c' b', f_X8_keepsAtMost_B35 empty cut box (nI z) (nI u) (Int64.ofInt f) = some (e', c', b') ∧ aR n (aLeave u f (B.2.1 z) B) e' c' b' := fun f f1 f2 => by
      unfold f_X8_keepsAtMost_B35
      obtain ⟨e', c', b', he, hr⟩ := y_keeps (f := f) (t := B.2.1 z) hn hu hB hR f1 f2 (by omega) (by omega)
      rw [y_high hn hz hR, o_b1_some, iI_64 (by omega) (by omega), he, o_b3_some]
      exact ⟨_, _, _, rfl, hr⟩
    unfold aAtMost
    by_cases h : B.1 z ≤ B.2.1 o
    · rw [if_pos (hi.mpr h), if_neg (by omega)]
      have := k35 (-2139095040) (by omega) (by omega)
      rw [aLeave_lo (by omega)] at this
      exact this
    · rw [if_neg (fun q => h (hi.mp q)), if_pos (by omega)]
      try rw [y_low hn hz hR]
      try rw [o_b1_some]
      rw [iI_64 (by omega) (by omega)]
      exact k35 (B.1 z) (by omega) (by omega)
  · rw [if_neg (fun q => h0 ((aR_e hR).mp q))]
    unfold aAtMost
    rw [aLeave_e h0]
    exact ⟨_, _, _, rfl, hR⟩
theorem cut_most {n x y z : Nat} {B : aB} (hn : n ≤ 6) (hx : x < n) (hy : y < n) (hz : z < n) (hB : aOK n B) : both n B (aMost x y z B) (fun c e l h => f_X0_cutMost c e l h (nI x) (nI y) (nI z)) (fun e c b => f_X8_cutsMost e c b (nI x) (nI y) (nI z)) := by
  have hB1 : aOK n (aMost0 x y z B) := aLeave_ok hB
  have hB2 : aOK n (aAtMost x y z (aMost0 x y z B)) := aLeave_ok hB1
  have hbx := aOK_in hB hx
  have hby := aOK_in hB hy
  refine ⟨aLeave_ok hB2, fun cut empty vl vh hC => ?_, fun empty cut box hR => ?_⟩
  · obtain ⟨c1, e1, l1, h1, he1, hC1⟩ := z_leave (f := max (B.1 x) (B.1 y)) (t := max (B.2.1 x) (B.2.1 y)) hn hz hB hC (by omega) (by omega) (by omega) (by omega)
    have hC1 : aC n (aMost0 x y z B) c1 e1 l1 h1 := hC1
    have tl : ∀ (B0 : aB) (u o : Nat) (c0 e0 : Int32) (l0 h0 : Nat → Int32), aOK n B0 → aC n B0 c0 e0 l0 h0 → u < n → o < n → ∃ c' e' l' h', f_X0_leave c0 e0 l0 h0 (nI u) (if l0 z ≤ h0 o then l0 u else l0 z) (h0 z) = some (c', e', l', h') ∧ aC n (aAtMost u o z B0) c' e' l' h' := fun B0 u o c0 e0 l0 h0 hB0 hC0 hu ho => by
      have a1 := aOK_in hB0 hu
      have a2 := aOK_in hB0 ho
      have a3 := aOK_in hB0 hz
      rw [aC_l hC0 hz, aC_h hC0 ho, aC_l hC0 hu, aC_h hC0 hz]
      have hi : (Int32.ofInt (B0.1 z) ≤ Int32.ofInt (B0.2.1 o)) ↔ B0.1 z ≤ B0.2.1 o := iI_le (by omega) (by omega) (by omega) (by omega)
      unfold aAtMost
      by_cases h : B0.1 z ≤ B0.2.1 o
      · rw [if_pos (hi.mpr h), if_neg (by omega)]
        exact z_leave hn hu hB0 hC0 (by omega) (by omega) (by omega) (by omega)
      · rw [if_neg (fun q => h (hi.mp q)), if_pos (by omega)]
        exact z_leave hn hu hB0 hC0 (by omega) (by omega) (by omega) (by omega)
    obtain ⟨c2, e2, l2, h2, he2, hC2⟩ := tl _ x y c1 e1 l1 h1 hB1 hC1 hx hy
    obtain ⟨c3, e3, l3, h3, he3, hC3⟩ := tl _ y x c2 e2 l2 h2 hB2 hC2 hy hx
    refine ⟨c3, e3, l3, h3, ?_, hC3⟩
    show f_X0_cutMost cut empty vl vh (nI x) (nI y) (nI z) = _
    have k108 : ∀ w : Int32, w = (if l2 z ≤ h2 x then l2 y else l2 z) → f_X0_cutMost_B108 c2 e2 l2 h2 (nI z) (nI y) w = some (c3, e3, l3, h3) := fun w hw => by
      unfold f_X0_cutMost_B108
      rw [o_in6 hz hn, z_cl hz hn, hw, he3, o_b4_some]
    have k67 : ∀ w : Int32, w = (if l1 z ≤ h1 y then l1 x else l1 z) → f_X0_cutMost_B67 c1 e1 l1 h1 (nI x) (nI y) (nI z) (nI x) w = some (c3, e3, l3, h3) := fun w hw => by
      unfold f_X0_cutMost_B67
      rw [o_in6 hz hn, z_cl hz hn, hw, he2, o_b4_some, o_in6 hx hn, o_in6 hz hn, z_cl hx hn, o_in6 hy hn, o_in6 hz hn, z_cl hy hn]
      by_cases h : l2 z ≤ h2 x
      · rw [if_pos h]
        exact k108 _ (by rw [if_pos h])
      · rw [if_neg h]
        exact k108 _ (by rw [if_neg h])
    unfold f_X0_cutMost
    rw [o_in6 hx hn, o_in6 hy hn, o_in6 hx hn, o_in6 hy hn, z_cl hx hn, z_cl hy hn, aC_l hC hx, aC_l hC hy, aC_h hC hx, aC_h hC hy, z_max (by omega) (by omega) (by omega) (by omega), z_max (by omega) (by omega) (by omega) (by omega), he1, o_b4_some, o_in6 hy hn, o_in6 hz hn, z_cl hz hn, o_in6 hx hn, o_in6 hz hn]
    by_cases h : l1 z ≤ h1 y
    · rw [if_pos h]
      exact k67 _ (by rw [if_pos h])
    · rw [if_neg h]
      exact k67 _ (by rw [if_neg h])
  · obtain ⟨e1, c1, b1, he1, hR1⟩ := y_keeps (f := max (B.1 x) (B.1 y)) (t := max (B.2.1 x) (B.2.1 y)) hn hz hB hR (by omega) (by omega) (by omega) (by omega)
    have hR1 : aR n (aMost0 x y z B) e1 c1 b1 := hR1
    obtain ⟨e2, c2, b2, he2, hR2⟩ := y_keepsAtMost hn hx hy hz hB1 hR1
    obtain ⟨e3, c3, b3, he3, hR3⟩ := y_keepsAtMost hn hy hx hz hB2 hR2
    refine ⟨e3, c3, b3, ?_, hR3⟩
    have k54 : ∀ a b : Int, a = max (B.1 x) (B.1 y) → b = max (B.2.1 x) (B.2.1 y) → f_X8_cutsMost_B54 empty cut box (nI x) (nI y) (nI z) (Int32.ofInt a) (Int32.ofInt b) = some (e3, c3, b3) := fun a b ha hb => by
      subst ha
      subst hb
      unfold f_X8_cutsMost_B54
      rw [iI_64 (by omega) (by omega), iI_64 (by omega) (by omega), he1, o_b3_some, he2, o_b3_some, he3, o_b3_some]
    have k26 : ∀ a : Int, a = max (B.1 x) (B.1 y) → f_X8_cutsMost_B26 empty cut box (nI x) (nI y) (nI z) (Int32.ofInt a) = some (e3, c3, b3) := fun a ha => by
      unfold f_X8_cutsMost_B26
      rw [y_high hn hx hR, o_b1_some, y_high hn hy hR, o_b1_some]
      have hi : (Int32.ofInt (B.2.1 x) ≤ Int32.ofInt (B.2.1 y)) ↔ B.2.1 x ≤ B.2.1 y := iI_le (by omega) (by omega) (by omega) (by omega)
      by_cases h : B.2.1 x ≤ B.2.1 y
      · rw [if_pos (hi.mpr h)]
        exact k54 _ _ ha (by omega)
      · rw [if_neg (fun q => h (hi.mp q))]
        exact k54 _ _ ha (by omega)
    show f_X8_cutsMost empty cut box (nI x) (nI y) (nI z) = _
    unfold f_X8_cutsMost
    rw [y_low hn hx hR, o_b1_some, y_low hn hy hR, o_b1_some]
    have hi : (Int32.ofInt (B.1 x) ≤ Int32.ofInt (B.1 y)) ↔ B.1 x ≤ B.1 y := iI_le (by omega) (by omega) (by omega) (by omega)
    by_cases h : B.1 x ≤ B.1 y
    · rw [if_pos (hi.mpr h)]
      exact k26 _ (by omega)
    · rw [if_neg (fun q => h (hi.mp q))]
      exact k26 _ (by omega)
