/-! sum -/
theorem summand {n N u o z : Nat} {B : aB} (hn : n ≤ 6) (hN : 40 ≤ N) (hu : u < n) (ho : o < n) (hz : z < n) (hB : aOK n B) :
    ∃ f t : Int, (-2147482000 ≤ f ∧ f ≤ 2147482000) ∧ (-2147482000 ≤ t ∧ t ≤ 2147482000) ∧
      (∀ cut empty vl vh, aC n B cut empty vl vh → f_X0_firstSum N vl vh (nI u) (vh o) (vl z) = some (Int32.ofInt f) ∧ f_X0_firstSum N vl vh (nI u) (vl o) (vh z + 1) = some (Int32.ofInt (t + 1))) ∧
      (∀ empty cut box, aR n B empty cut box → ∃ e' c' b', f_X8_keepsSummand N empty cut box (nI u) (nI o) (nI z) = some (e', c', b') ∧ aR n (aLeave u f t B) e' c' b') := by
  obtain ⟨pu1, pu2, pu3⟩ := hB u hu
  obtain ⟨po1, po2, po3⟩ := hB o ho
  have bu := aOK_in hB hu
  have bz := aOK_in hB hz
  have hu6 : u < 6 := by omega
  obtain ⟨r1, -, q1⟩ := z_firstSum (vl := fun k => Int32.ofInt (B.1 k)) (vh := fun k => Int32.ofInt (B.2.1 k)) (N := N) (o := B.2.1 o) (goal := B.1 z) hN hu6 rfl rfl pu1 pu2 pu3 po2 (by omega) (by omega)
  obtain ⟨r2, -, q2⟩ := z_firstSum (vl := fun k => Int32.ofInt (B.1 k)) (vh := fun k => Int32.ofInt (B.2.1 k)) (N := N) (o := B.1 o) (goal := B.2.1 z + 1) hN hu6 rfl rfl pu1 pu2 pu3 po1 (by omega) (by omega)
  have b1 := q1.1
  have b2 := q1.2.1
  have b3 := q2.1
  have b4 := q2.2.1
  refine ⟨r1, r2 - 1, ⟨by omega, by omega⟩, ⟨by omega, by omega⟩, fun cut empty vl vh hC => ?_, fun empty cut box hR => ?_⟩
  · obtain ⟨s1, e1, g1⟩ := z_firstSum (vl := vl) (vh := vh) (N := N) (o := B.2.1 o) (goal := B.1 z) hN hu6 (aC_l hC hu) (aC_h hC hu) pu1 pu2 pu3 po2 (by omega) (by omega)
    obtain ⟨s2, e2, g2⟩ := z_firstSum (vl := vl) (vh := vh) (N := N) (o := B.1 o) (goal := B.2.1 z + 1) hN hu6 (aC_l hC hu) (aC_h hC hu) pu1 pu2 pu3 po1 (by omega) (by omega)
    rw [aC_h hC ho, aC_l hC hz, aC_l hC ho, aC_h hC hz, iI_p1, e1, e2, isFirst_one g1 q1, isFirst_one g2 q2]
    exact ⟨rfl, by rw [show r2 - 1 + 1 = r2 by omega]⟩
  · unfold f_X8_keepsSummand
    by_cases h0 : B.2.2.2 = false
    · obtain ⟨s1, e1, g1⟩ := y_firstRising (N := N) (kd := 0) (q := Int32.ofInt (B.2.1 o)) (r := Int32.ofInt (B.2.1 o)) (F := fun p => pSum p (B.2.1 o)) (goal := B.1 z) hN pu1 pu2 pu3 (by omega) (by omega) (fun p p1 p2 => (y_outer_sum (isP_mid pu1 pu2 p1 p2) po2).1) (fun p => pSum_in p _) (fun p p' _ h _ hh => by
        have := pSum_mono (B.2.1 o) h
        omega)
      obtain ⟨s2, e2, g2⟩ := y_lastRising (N := N) (kd := 0) (q := Int32.ofInt (B.1 o)) (r := Int32.ofInt (B.1 o)) (F := fun p => pSum p (B.1 o)) (goal := B.2.1 z) hN pu1 pu2 pu3 (by omega) (by omega) (fun p p1 p2 => (y_outer_sum (isP_mid pu1 pu2 p1 p2) po1).2) (fun p => pSum_in p _) (fun p p' _ h _ hh => by
        have := pSum_mono (B.1 o) h
        omega)
      have d1 : s1 = r1 := isFirst_one g1 q1
      have d2 : s2 + 1 = r2 := isFirst_one g2 q2
      obtain ⟨e', c', b', he, hr⟩ := y_keeps (f := r1) (t := r2 - 1) hn hu hB hR (by omega) (by omega) (by omega) (by omega)
      rw [if_pos ((aR_e hR).mpr h0), y_high hn ho hR, o_b1_some, y_low hn ho hR, o_b1_some, y_low hn hu hR, o_b1_some, y_high hn hu hR, o_b1_some, y_low hn hz hR, o_b1_some, e1, o_b1_some, o_b1_some, o_b1_some, y_high hn hz hR, o_b1_some, e2, o_b1_some, d1, show s2 = r2 - 1 by omega, he, o_b3_some]
      exact ⟨_, _, _, rfl, hr⟩
    · rw [if_neg (fun q => h0 ((aR_e hR).mp q)), aLeave_e h0]
      exact ⟨_, _, _, rfl, hR⟩
theorem cut_sum {n N x y z : Nat} {B : aB} (hn : n ≤ 6) (hN : 40 ≤ N) (hx : x < n) (hy : y < n) (hz : z < n) (hB : aOK n B) : ∃ B', both n B B' (fun c e l h => f_X0_cutSum N c e l h (nI x) (nI y) (nI z)) (fun e c b => f_X8_cutsSum N e c b (nI x) (nI y) (nI z)) := by
  obtain ⟨px1, px2, px3⟩ := hB x hx
  obtain ⟨py1, py2, py3⟩ := hB y hy
  have s1 := pSum_in (B.1 x) (B.1 y)
  have s2 := pSum_in (B.2.1 x) (B.2.1 y)
  obtain ⟨B1, hB1e⟩ : ∃ B1, B1 = aLeave z (pSum (B.1 x) (B.1 y)) (pSum (B.2.1 x) (B.2.1 y)) B := ⟨_, rfl⟩
  have hB1 : aOK n B1 := by rw [hB1e]; exact aLeave_ok hB
  obtain ⟨f1, t1, ⟨f1a, f1b⟩, ⟨t1a, t1b⟩, c1, r1⟩ := summand hn hN hx hy hz hB1
  obtain ⟨B2, hB2e⟩ : ∃ B2, B2 = aLeave x f1 t1 B1 := ⟨_, rfl⟩
  have hB2 : aOK n B2 := by rw [hB2e]; exact aLeave_ok hB1
  obtain ⟨f2, t2, ⟨f2a, f2b⟩, ⟨t2a, t2b⟩, c2, r2⟩ := summand hn hN hy hx hz hB2
  refine ⟨aLeave y f2 t2 B2, aLeave_ok hB2, fun cut empty vl vh hC => ?_, fun empty cut box hR => ?_⟩
  · obtain ⟨ca, ea, la_, ha, hea, hCa⟩ := z_leave (f := pSum (B.1 x) (B.1 y)) (t := pSum (B.2.1 x) (B.2.1 y)) hn hz hB hC (by omega) (by omega) (by omega) (by omega)
    rw [← hB1e] at hCa
    have k85 : ∀ (c0 e0 : Int32) (l0 h0 : Nat → Int32), aC n B2 c0 e0 l0 h0 → ∃ c' e' l' h', f_X0_cutSum_B85 N c0 e0 l0 h0 (nI x) (nI y) (nI z) = some (c', e', l', h') ∧ aC n (aLeave y f2 t2 B2) c' e' l' h' := fun c0 e0 l0 h0 hC0 => by
      unfold f_X0_cutSum_B85
      obtain ⟨g1, g2⟩ := c2 c0 e0 l0 h0 hC0
      by_cases hz0 : B2.2.2.2 = false
      · obtain ⟨c', e', l', h', he, hc⟩ := z_leave (f := f2) (t := t2) hn hy hB2 hC0 (by omega) (by omega) (by omega) (by omega)
        rw [if_pos ((aC_e hC0).mpr hz0), o_in6 hx hn, o_in6 hz hn, z_cl hx hn, z_cl hz hn, g1, o_b1_some, o_in6 hx hn, o_in6 hz hn, g2, o_b1_some, iI_d1, show t2 + 1 - 1 = t2 by omega, he, o_b4_some]
        exact ⟨_, _, _, _, rfl, hc⟩
      · rw [if_neg (fun q => hz0 ((aC_e hC0).mp q)), aLeave_e hz0]
        exact ⟨_, _, _, _, rfl, hC0⟩
    show ∃ c' e' l' h', f_X0_cutSum N cut empty vl vh (nI x) (nI y) (nI z) = some (c', e', l', h') ∧ _
    unfold f_X0_cutSum
    rw [o_in6 hx hn, o_in6 hy hn, z_cl hx hn, z_cl hy hn, aC_l hC hx, aC_l hC hy, z_sum px1 py1, o_b1_some, o_in6 hx hn, o_in6 hy hn, aC_h hC hx, aC_h hC hy, z_sum px2 py2, o_b1_some, hea, o_b4_some]
    obtain ⟨g1, g2⟩ := c1 ca ea la_ ha hCa
    by_cases hz0 : B1.2.2.2 = false
    · obtain ⟨cb, eb, lb, hb, heb, hCb⟩ := z_leave (f := f1) (t := t1) hn hx hB1 hCa (by omega) (by omega) (by omega) (by omega)
      rw [if_pos ((aC_e hCa).mpr hz0), o_in6 hy hn, o_in6 hz hn, z_cl hz hn, g1, o_b1_some, o_in6 hy hn, o_in6 hz hn, g2, o_b1_some, iI_d1, show t1 + 1 - 1 = t1 by omega, heb, o_b4_some]
      rw [← hB2e] at hCb
      exact k85 _ _ _ _ hCb
    · rw [if_neg (fun q => hz0 ((aC_e hCa).mp q))]
      rw [aLeave_e hz0] at hB2e
      rw [← hB2e] at hCa
      exact k85 _ _ _ _ hCa
  · obtain ⟨ea, ca, ba, hea, hRa⟩ := y_keeps (f := pSum (B.1 x) (B.1 y)) (t := pSum (B.2.1 x) (B.2.1 y)) hn hz hB hR (by omega) (by omega) (by omega) (by omega)
    rw [← hB1e] at hRa
    obtain ⟨eb, cb, bb, heb, hRb⟩ := r1 ea ca ba hRa
    rw [← hB2e] at hRb
    obtain ⟨ec, cc, bc, hec, hRc⟩ := r2 eb cb bb hRb
    refine ⟨ec, cc, bc, ?_, hRc⟩
    show f_X8_cutsSum N empty cut box (nI x) (nI y) (nI z) = _
    unfold f_X8_cutsSum
    rw [y_low hn hx hR, o_b1_some, y_low hn hy hR, o_b1_some, y_sum px1 py1, o_b1_some, y_high hn hx hR, o_b1_some, y_high hn hy hR, o_b1_some, y_sum px2 py2, o_b1_some, iI_64 (by omega) (by omega), iI_64 (by omega) (by omega), hea, o_b3_some, heb, o_b3_some, hec, o_b3_some]
