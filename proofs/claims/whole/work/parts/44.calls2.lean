/-! ===== calls that ask ===== -/
theorem o_b11_some {A1 A2 A3 A4 A5 A6 A7 A8 A9 A10 A11 β : Type} (a1 : A1) (a2 : A2) (a3 : A3) (a4 : A4) (a5 : A5) (a6 : A6) (a7 : A7) (a8 : A8) (a9 : A9) (a10 : A10) (a11 : A11) (k : A1 → A2 → A3 → A4 → A5 → A6 → A7 → A8 → A9 → A10 → A11 → Option β) : o_b11 (some (a1, a2, a3, a4, a5, a6, a7, a8, a9, a10, a11)) k = k a1 a2 a3 a4 a5 a6 a7 a8 a9 a10 a11 := rfl
theorem vd_0 {fnd : Bool} {q : Nat} : vd fnd q = 0 ↔ fnd = true := by
  unfold vd
  cases fnd
  · by_cases g : q = 0
    · rw [if_neg (by decide), if_pos g]
      exact ⟨fun h => absurd h (by decide), fun h => absurd h (by decide)⟩
    · rw [if_neg (by decide), if_neg g]
      exact ⟨fun h => absurd h (by decide), fun h => absurd h (by decide)⟩
  · rw [if_pos rfl]
    exact ⟨fun _ => rfl, fun _ => rfl⟩
section calls
variable {N : Nat} {nu nr : Int32} {nl nh nk nx ny nz : Nat → Int32} {hc hn : Int32} {hr : Nat → g_MV} {sv st sf sb : Int32} {sp : Nat → Int32} {tl : Int32} {tb rf : Nat → Int32} {all past : Nat → Int32} {ss : Int32} {rr rt : Nat → Int32} {rl : Int32}
theorem L_of (hRel : Rel N nu nr nl nh nk nx ny nz hc hn hr sv st sf sb sp tl tb rf all past ss rr rt rl) (x1 x2 : Int32) : ∃ r o_rf o_rr, f_X7_of nu nh nl rf x1 x2 = some (r, o_rf) ∧ f_X8_of all rr x1 x2 = some (r, o_rr) ∧ Rel N nu nr nl nh nk nx ny nz hc hn hr sv st sf sb sp tl tb o_rf all past ss o_rr rt rl := by
  obtain ⟨S, h, Hs, tn, hS, hC, hR, hH, hcc, hrr, hs, hrf, htn, htl, hrl, hrt, htb⟩ := hRel
  subst hrf
  obtain ⟨hun, hru, hu, -⟩ := id hC
  have hn6 := hS.1
  have bad : ∃ r o_rf o_rr, f_X7_of_B20 nu nh nl rr = some (r, o_rf) ∧ f_X8_of_B38 all rr = some (r, o_rr) ∧ Rel N nu nr nl nh nk nx ny nz hc hn hr sv st sf sb sp tl tb o_rf all past ss o_rr rt rl := by
    unfold f_X7_of_B20 f_X8_of_B38
    rw [ref_same, ref_bad, o_b2_some]
    try rw [o_b2_some]
    exact ⟨_, _, _, rfl, rfl, S, h, Hs, tn, hS, hC, hR, hH, hcc, hrr, hs, rfl, htn, htl, hrl, hrt, htb⟩
  unfold f_X7_of f_X8_of
  rw [show f_X3_hasUnknown nu x1 = f_X3_hasUnknown (nI (sn S)) x1 by rw [hun], z_has hS.1, o_b1_some, y_has hS hR, o_b1_some, y_in (A := 0) (B := 1) rfl rfl, o_b1_some]
  by_cases g1 : 0 ≤ x1.toInt ∧ x1.toInt ≤ (sn S : Int) - 1
  · obtain ⟨u, hu', rfl⟩ := nI_at hS.1 g1
    rw [decide_eq_true g1, if_neg bI_t, if_neg bI_t]
    by_cases g2 : x2.toInt < 0
    · rw [if_pos ((i_lt (c := 0) (C := 0) rfl).mpr g2), decide_eq_false (fun q => by omega), if_pos bI_f]
      exact bad
    · rw [if_neg (fun q => g2 ((i_lt (c := 0) (C := 0) rfl).mp q))]
      by_cases g3 : x2.toInt ≤ 1
      · rw [if_pos ((i_le (c := 1) (C := 1) rfl).mpr g3), decide_eq_true ⟨by omega, g3⟩, if_neg bI_t, o_inN (by omega) (by decide), o_inN (by omega) (by decide), nI_clamp (by omega), y_lowAt (by omega), o_b1_some, y_highAt (by omega), o_b1_some, (hu u hu').1, (hu u hu').2, (hR.2.2.1 u hu').1, (hR.2.2.1 u hu').2]
        by_cases g4 : x2 = 0
        · rw [if_pos g4]
          try rw [if_pos g4]
          exact ⟨_, _, _, rfl, rfl, S, h, Hs, tn, hS, hC, hR, hH, hcc, hrr, hs, rfl, htn, htl, hrl, hrt, htb⟩
        · rw [if_neg g4]
          try rw [if_neg g4]
          exact ⟨_, _, _, rfl, rfl, S, h, Hs, tn, hS, hC, hR, hH, hcc, hrr, hs, rfl, htn, htl, hrl, hrt, htb⟩
      · rw [if_neg (fun q => g3 ((i_le (c := 1) (C := 1) rfl).mp q)), decide_eq_false (fun q => g3 q.2), if_pos bI_f]
        exact bad
  · rw [decide_eq_false g1, if_pos bI_f, if_pos bI_f]
    exact bad
theorem L_holding (hRel : Rel N nu nr nl nh nk nx ny nz hc hn hr sv st sf sb sp tl tb rf all past ss rr rt rl) (x1 : Int32) : ∃ r o_rf o_rr, f_X7_holding nu nl nh rf x1 = some (r, o_rf) ∧ f_X8_holding all rr x1 = some (r, o_rr) ∧ Rel N nu nr nl nh nk nx ny nz hc hn hr sv st sf sb sp tl tb o_rf all past ss o_rr rt rl := by
  obtain ⟨S, h, Hs, tn, hS, hC, hR, hH, hcc, hrr, hs, hrf, htn, htl, hrl, hrt, htb⟩ := hRel
  subst hrf
  obtain ⟨hun, hru, hu, -⟩ := id hC
  have hn6 := hS.1
  unfold f_X7_holding f_X8_holding
  rw [show f_X3_hasUnknown nu x1 = f_X3_hasUnknown (nI (sn S)) x1 by rw [hun], z_has hS.1, o_b1_some, y_has hS hR, o_b1_some, ref_same, ref_bad, o_b2_some]
  try rw [o_b2_some]
  by_cases g1 : 0 ≤ x1.toInt ∧ x1.toInt ≤ (sn S : Int) - 1
  · obtain ⟨u, hu', rfl⟩ := nI_at hS.1 g1
    obtain ⟨p1, p2, p3⟩ := hS.2.2.1 u hu'
    unfold isP at p1 p2
    rw [decide_eq_true g1, if_neg bI_t, if_neg bI_t, o_inN (by omega) (by decide), o_inN (by omega) (by decide), nI_clamp (by omega), y_highAt (by omega), o_b1_some, y_lowAt (by omega), o_b1_some, (hu u hu').1, (hu u hu').2, (hR.2.2.1 u hu').1, (hR.2.2.1 u hu').2]
    unfold f_X4_held
    rw [o_b1_some, iI_64 (by omega) (by omega), iI_64 (by omega) (by omega), ← Int64.ofInt_sub, jI_p1, show (1 : Int64) = Int64.ofInt 1 from rfl, ← Int64.ofInt_add, ← Int64.ofInt_sub, show 1 + sh S u - sl S u = sh S u - sl S u + 1 by omega]
    exact ⟨_, _, _, rfl, rfl, S, h, Hs, tn, hS, hC, hR, hH, hcc, hrr, hs, rfl, htn, htl, hrl, hrt, htb⟩
  · rw [decide_eq_false g1, if_pos bI_f, if_pos bI_f]
    exact ⟨_, _, _, rfl, rfl, S, h, Hs, tn, hS, hC, hR, hH, hcc, hrr, hs, rfl, htn, htl, hrl, hrt, htb⟩
theorem L_about (hRel : Rel N nu nr nl nh nk nx ny nz hc hn hr sv st sf sb sp tl tb rf all past ss rr rt rl) (x1 x2 : Int32) : ∃ r o_rf o_rr, f_X7_about nr nk nx ny nz rf x1 x2 = some (r, o_rf) ∧ f_X8_about all rr x1 x2 = some (r, o_rr) ∧ Rel N nu nr nl nh nk nx ny nz hc hn hr sv st sf sb sp tl tb o_rf all past ss o_rr rt rl := by
  obtain ⟨S, h, Hs, tn, hS, hC, hR, hH, hcc, hrr, hs, hrf, htn, htl, hrl, hrt, htb⟩ := hRel
  subst hrf
  obtain ⟨hun, hru, hu, hru2⟩ := id hC
  have hm6 := hS.2.1
  have bad : ∃ r o_rf o_rr, f_X7_about_B20 nr nk nx ny nz rr = some (r, o_rf) ∧ f_X8_about_B29 all rr = some (r, o_rr) ∧ Rel N nu nr nl nh nk nx ny nz hc hn hr sv st sf sb sp tl tb o_rf all past ss o_rr rt rl := by
    unfold f_X7_about_B20 f_X8_about_B29
    rw [ref_same, ref_bad, o_b2_some]
    try rw [o_b2_some]
    exact ⟨_, _, _, rfl, rfl, S, h, Hs, tn, hS, hC, hR, hH, hcc, hrr, hs, rfl, htn, htl, hrl, hrt, htb⟩
  unfold f_X7_about f_X8_about
  rw [show f_X3_hasRule nr x1 = f_X3_hasRule (nI (sm S)) x1 by rw [hru], z_hasR hS.2.1, o_b1_some, y_hasR hS hR, o_b1_some, y_in (A := 0) (B := 3) rfl rfl, o_b1_some]
  by_cases g1 : 0 ≤ x1.toInt ∧ x1.toInt ≤ (sm S : Int) - 1
  · obtain ⟨k, hk', rfl⟩ := nI_at hS.2.1 g1
    rw [decide_eq_true g1, if_neg bI_t, if_neg bI_t]
    by_cases g2 : x2.toInt < 0
    · rw [if_pos ((i_lt (c := 0) (C := 0) rfl).mpr g2), decide_eq_false (fun q => by omega), if_pos bI_f]
      exact bad
    · rw [if_neg (fun q => g2 ((i_lt (c := 0) (C := 0) rfl).mp q))]
      by_cases g3 : x2.toInt ≤ 3
      · obtain ⟨w1, w2, w3, w4⟩ := hru2 k hk'
        rw [if_pos ((i_le (c := 3) (C := 3) rfl).mpr g3), decide_eq_true ⟨by omega, g3⟩, if_neg bI_t, o_inN (by omega) (by decide), o_inN (by omega) (by decide), o_inN (by omega) (by decide), o_inN (by omega) (by decide), nI_clamp (by omega), w1, w2, w3, w4]
        obtain ⟨j, hj, rfl⟩ := nI_at (n := 4) (x := x2) (by omega) (by omega)
        rcases (show j = 0 ∨ j = 1 ∨ j = 2 ∨ j = 3 by omega) with rfl | rfl | rfl | rfl
        · rw [if_pos (show nI 0 = (0 : Int32) by decide), show f_X8_ruleAt all (nI k) (nI 0) = some (nI (sk S k)) from y_rule0 hS hR hk', o_b1_some]
          exact ⟨_, _, _, rfl, rfl, S, h, Hs, tn, hS, hC, hR, hH, hcc, hrr, hs, rfl, htn, htl, hrl, hrt, htb⟩
        · rw [if_neg (show ¬ nI 1 = (0 : Int32) by decide), if_pos (show nI 1 = (1 : Int32) by decide), show f_X8_ruleAt all (nI k) (nI 1) = some (nI (sx S k)) from y_rule1 hS hR hk', o_b1_some]
          exact ⟨_, _, _, rfl, rfl, S, h, Hs, tn, hS, hC, hR, hH, hcc, hrr, hs, rfl, htn, htl, hrl, hrt, htb⟩
        · rw [if_neg (show ¬ nI 2 = (0 : Int32) by decide), if_neg (show ¬ nI 2 = (1 : Int32) by decide), if_pos (show nI 2 = (2 : Int32) by decide), show f_X8_ruleAt all (nI k) (nI 2) = some (nI (sy S k)) from y_rule2 hS hR hk', o_b1_some]
          exact ⟨_, _, _, rfl, rfl, S, h, Hs, tn, hS, hC, hR, hH, hcc, hrr, hs, rfl, htn, htl, hrl, hrt, htb⟩
        · rw [if_neg (show ¬ nI 3 = (0 : Int32) by decide), if_neg (show ¬ nI 3 = (1 : Int32) by decide), if_neg (show ¬ nI 3 = (2 : Int32) by decide), show f_X8_ruleAt all (nI k) (nI 3) = some (nI (sz S k)) from y_rule3 hS hR hk', o_b1_some]
          exact ⟨_, _, _, rfl, rfl, S, h, Hs, tn, hS, hC, hR, hH, hcc, hrr, hs, rfl, htn, htl, hrl, hrt, htb⟩
      · rw [if_neg (fun q => g3 ((i_le (c := 3) (C := 3) rfl).mp q)), decide_eq_false (fun q => g3 q.2), if_pos bI_f]
        exact bad
  · rw [decide_eq_false g1, if_pos bI_f, if_pos bI_f]
    exact bad
theorem L_would (hN : 600 ≤ N) (hRel : Rel N nu nr nl nh nk nx ny nz hc hn hr sv st sf sb sp tl tb rf all past ss rr rt rl) (cc ce : Int32) (cl ch : Nat → Int32) (re rc : Int32) (rb : Nat → Int32) (x1 x2 x3 : Int32) : ∃ r o_rf o_cc o_ce o_cl o_ch o_re o_rc o_rr o_rb, f_X7_would N nu nr nl nh nx ny nz nk rf cc ce cl ch x1 x2 x3 = some (r, o_rf, o_cc, o_ce, o_cl, o_ch) ∧ f_X8_would N all re rc rr rb x1 x2 x3 = some (r, o_re, o_rc, o_rr, o_rb) ∧ Rel N nu nr nl nh nk nx ny nz hc hn hr sv st sf sb sp tl tb o_rf all past ss o_rr rt rl := by
  obtain ⟨S, h, Hs, tn, hS, hC, hR, hH, hcc, hrr, hs, hrf, htn, htl, hrl, hrt, htb⟩ := hRel
  subst hrf
  obtain ⟨hun, hru, hu, hru2⟩ := id hC
  have hn6 := hS.1
  have hm6 := hS.2.1
  have bad : ∃ r o_rf o_cc o_ce o_cl o_ch o_re o_rc o_rr o_rb, f_X7_would_B31 N nu nr nl nh nx ny nz nk rr cc ce cl ch = some (r, o_rf, o_cc, o_ce, o_cl, o_ch) ∧ f_X8_would_B36 N all re rc rr rb = some (r, o_re, o_rc, o_rr, o_rb) ∧ Rel N nu nr nl nh nk nx ny nz hc hn hr sv st sf sb sp tl tb o_rf all past ss o_rr rt rl := by
    unfold f_X7_would_B31 f_X8_would_B36
    rw [ref_same, ref_bad, o_b2_some]
    try rw [o_b2_some]
    exact ⟨_, _, _, _, _, _, _, _, _, _, rfl, rfl, S, h, Hs, tn, hS, hC, hR, hH, hcc, hrr, hs, rfl, htn, htl, hrl, hrt, htb⟩
  unfold f_X7_would f_X8_would
  rw [show f_X3_hasRule nr x1 = f_X3_hasRule (nI (sm S)) x1 by rw [hru], z_hasR hS.2.1, o_b1_some, y_hasR hS hR, o_b1_some, show f_X3_hasUnknown nu x2 = f_X3_hasUnknown (nI (sn S)) x2 by rw [hun], z_has hS.1, o_b1_some, y_has hS hR, o_b1_some, y_in (A := 0) (B := 1) rfl rfl, o_b1_some]
  by_cases g1 : 0 ≤ x1.toInt ∧ x1.toInt ≤ (sm S : Int) - 1
  · rw [decide_eq_true g1, if_neg bI_t, if_neg bI_t]
    by_cases g2 : 0 ≤ x2.toInt ∧ x2.toInt ≤ (sn S : Int) - 1
    · rw [decide_eq_true g2, if_neg bI_t, if_neg bI_t]
      by_cases g3 : x3.toInt < 0
      · rw [if_pos ((i_lt (c := 0) (C := 0) rfl).mpr g3), decide_eq_false (fun q => by omega), if_pos bI_f]
        exact bad
      · rw [if_neg (fun q => g3 ((i_lt (c := 0) (C := 0) rfl).mp q))]
        by_cases g4 : x3.toInt ≤ 1
        · obtain ⟨k, hk', rfl⟩ := nI_at hS.2.1 g1
          obtain ⟨u, hu', rfl⟩ := nI_at hS.1 g2
          obtain ⟨B', ok, wc, wr⟩ := would_both (N := N) hS (by omega) hk'
          obtain ⟨r, c1, e1, l1, h1, q1, q2, q3, q4⟩ := wc nu nr nl nh nk nx ny nz hC cc ce cl ch
          obtain ⟨b1, e2, c2, b2, v1, v2, v3⟩ := wr all hR re rc rb
          have hl : f_X0_load 6 6 nl nh cl ch 0 = some (va_cpy nl cl 0 0 6, va_cpy nh ch 0 0 6) := z_load (k := 0) (by omega) (by decide)
          rw [if_pos ((i_le (c := 1) (C := 1) rfl).mpr g4), decide_eq_true ⟨by omega, g4⟩, if_neg bI_t, hl, o_b2_some, nI_1, q1, o_b5_some, o_inN (by omega) (by decide), o_inN (by omega) (by decide), nI_clamp (by omega)]
          unfold f_X8_wouldBe
          rw [v1, o_b2_some, v2, o_b3_some]
          have hv3 : aR (sn S) B' e2 (bI B'.2.2.1) b2 := ⟨rfl, v3.1, v3.2⟩
          rw [y_low hn6 hu' hv3, o_b1_some, y_high hn6 hu' hv3, o_b1_some]
          by_cases he : B'.2.2.2 = false
          · have ez : e2 = 0 := by rw [v3.1, he]; rfl
            rw [q4 he, if_neg (show ¬ (1 : Int32) = -2139095049 by decide), if_pos ez, (q2.2 u hu').1, (q2.2 u hu').2]
            by_cases g5 : x3 = 0
            · rw [if_pos g5, if_pos g5, o_b4_some]
              exact ⟨_, _, _, _, _, _, _, _, _, _, rfl, rfl, S, h, Hs, tn, hS, hC, hR, hH, hcc, hrr, hs, rfl, htn, htl, hrl, hrt, htb⟩
            · rw [if_neg g5, if_neg g5, o_b4_some]
              exact ⟨_, _, _, _, _, _, _, _, _, _, rfl, rfl, S, h, Hs, tn, hS, hC, hR, hH, hcc, hrr, hs, rfl, htn, htl, hrl, hrt, htb⟩
          · have he' : B'.2.2.2 = true := by simpa using he
            have ez : ¬ e2 = 0 := by rw [v3.1, he']; decide
            rw [q3 he', if_pos (show (-2139095049 : Int32) = -2139095049 from rfl), if_neg ez, o_b4_some]
            exact ⟨_, _, _, _, _, _, _, _, _, _, rfl, rfl, S, h, Hs, tn, hS, hC, hR, hH, hcc, hrr, hs, rfl, htn, htl, hrl, hrt, htb⟩
        · rw [if_neg (fun q => g4 ((i_le (c := 1) (C := 1) rfl).mp q)), decide_eq_false (fun q => g4 q.2), if_pos bI_f]
          exact bad
    · rw [decide_eq_false g2, if_pos bI_f, if_pos bI_f]
      exact bad
  · rw [decide_eq_false g1, if_pos bI_f, if_pos bI_f]
    exact bad
theorem L_does (hRel : Rel N nu nr nl nh nk nx ny nz hc hn hr sv st sf sb sp tl tb rf all past ss rr rt rl) (x1 x2 x3 x4 : Int32) : ∃ r o_rf o_rr, f_X7_does rf x1 x2 x3 x4 = some (r, o_rf) ∧ f_X8_does rr x1 x2 x3 x4 = some (r, o_rr) ∧ Rel N nu nr nl nh nk nx ny nz hc hn hr sv st sf sb sp tl tb o_rf all past ss o_rr rt rl := by
  obtain ⟨S, h, Hs, tn, hS, hC, hR, hH, hcc, hrr, hs, hrf, htn, htl, hrl, hrt, htb⟩ := hRel
  subst hrf
  have bad : ∃ r o_rf o_rr, f_X7_does_B48 rr = some (r, o_rf) ∧ f_X8_does_B43 rr x1 x2 x3 x4 = some (r, o_rr) ∧ Rel N nu nr nl nh nk nx ny nz hc hn hr sv st sf sb sp tl tb o_rf all past ss o_rr rt rl := by
    unfold f_X7_does_B48 f_X8_does_B43 f_X8_does_B44
    rw [if_pos rfl, ref_same, ref_bad, o_b2_some]
    try rw [o_b2_some]
    exact ⟨_, _, _, rfl, rfl, S, h, Hs, tn, hS, hC, hR, hH, hcc, hrr, hs, rfl, htn, htl, hrl, hrt, htb⟩
  have bad' : f_X7_does_B23 rr x1 x2 x3 x4 = f_X7_does_B48 rr := by
    unfold f_X7_does_B23 f_X7_does_B28
    rw [if_neg (by decide)]
  have good : isP x2.toInt → isP x3.toInt → ∃ r o_rf o_rr, f_X7_does_B55 rr x1 x2 x3 x4 = some (r, o_rf) ∧ f_X8_does_B39 rr x1 x2 x3 x4 = some (r, o_rr) ∧ Rel N nu nr nl nh nk nx ny nz hc hn hr sv st sf sb sp tl tb o_rf all past ss o_rr rt rl := fun p1 p2 => by
    obtain ⟨b, b1, b2⟩ := holds_both p1 p2 x1 x4
    rw [← Int32_of, ← Int32_of] at b1 b2
    unfold f_X7_does_B55 f_X8_does_B39 f_X8_does_B44
    rw [if_neg (by decide), b1, o_b1_some, b2, o_b1_some]
    cases b
    · rw [if_pos bI_f]
      try rw [if_pos bI_f]
      exact ⟨_, _, _, rfl, rfl, S, h, Hs, tn, hS, hC, hR, hH, hcc, hrr, hs, rfl, htn, htl, hrl, hrt, htb⟩
    · rw [if_neg bI_t]
      try rw [if_neg bI_t]
      exact ⟨_, _, _, rfl, rfl, S, h, Hs, tn, hS, hC, hR, hH, hcc, hrr, hs, rfl, htn, htl, hrl, hrt, htb⟩
  unfold f_X7_does f_X8_does
  rw [bad', y_in (A := 0) (B := 5) rfl rfl, o_b1_some, y_isPlace, o_b1_some, y_isPlace, o_b1_some, y_isPlace, o_b1_some, z_isPlace, o_b1_some, z_isPlace, o_b1_some]
  by_cases g1 : x1.toInt < 0
  · rw [if_pos ((i_lt (c := 0) (C := 0) rfl).mpr g1), decide_eq_false (fun q => by omega), if_pos bI_f]
    exact bad
  rw [if_neg (fun q => g1 ((i_lt (c := 0) (C := 0) rfl).mp q))]
  by_cases g2 : 5 < x1.toInt
  · rw [if_pos ((i_gt (c := 5) (C := 5) rfl).mpr g2), decide_eq_false (fun q => by omega), if_pos bI_f]
    exact bad
  rw [if_neg (fun q => g2 ((i_gt (c := 5) (C := 5) rfl).mp q)), decide_eq_true (show 0 ≤ x1.toInt ∧ x1.toInt ≤ 5 by omega), if_neg bI_t]
  by_cases p1 : -2139095040 ≤ x2.toInt ∧ x2.toInt ≤ 2139095039
  · rw [decide_eq_true p1, if_neg bI_t, if_neg bI_t]
    by_cases p2 : -2139095040 ≤ x3.toInt ∧ x3.toInt ≤ 2139095039
    · rw [decide_eq_true p2, if_neg bI_t, if_neg bI_t]
      unfold f_X7_does_B28
      rw [if_pos rfl, z_isPlace, o_b1_some]
      by_cases g3 : (3 : Int32) ≤ x1
      · rw [if_pos g3]
        try rw [if_pos g3]
        exact good p1 p2
      · rw [if_neg g3]
        try rw [if_neg g3]
        by_cases p3 : -2139095040 ≤ x4.toInt ∧ x4.toInt ≤ 2139095039
        · rw [decide_eq_true p3, if_neg bI_t, if_neg bI_t]
          exact good p1 p2
        · rw [decide_eq_false p3, if_pos bI_f, if_pos bI_f]
          exact bad
    · rw [decide_eq_false p2, if_pos bI_f, if_pos bI_f]
      exact bad
  · rw [decide_eq_false p1, if_pos bI_f, if_pos bI_f]
    exact bad
theorem L_reckons (hRel : Rel N nu nr nl nh nk nx ny nz hc hn hr sv st sf sb sp tl tb rf all past ss rr rt rl) (x1 x2 x3 : Int32) : ∃ r o_rf o_rr, f_X7_reckons rf x1 x2 x3 = some (r, o_rf) ∧ f_X8_reckons rr x1 x2 x3 = some (r, o_rr) ∧ Rel N nu nr nl nh nk nx ny nz hc hn hr sv st sf sb sp tl tb o_rf all past ss o_rr rt rl := by
  obtain ⟨S, h, Hs, tn, hS, hC, hR, hH, hcc, hrr, hs, hrf, htn, htl, hrl, hrt, htb⟩ := hRel
  subst hrf
  have bad : ∃ r o_rf o_rr, f_X7_reckons_B23 rr = some (r, o_rf) ∧ f_X8_reckons_B33 rr = some (r, o_rr) ∧ Rel N nu nr nl nh nk nx ny nz hc hn hr sv st sf sb sp tl tb o_rf all past ss o_rr rt rl := by
    unfold f_X7_reckons_B23 f_X8_reckons_B33
    rw [ref_same, ref_bad, o_b2_some]
    try rw [o_b2_some]
    exact ⟨_, _, _, rfl, rfl, S, h, Hs, tn, hS, hC, hR, hH, hcc, hrr, hs, rfl, htn, htl, hrl, hrt, htb⟩
  unfold f_X7_reckons f_X8_reckons f_X8_reckoned
  rw [y_in (A := 0) (B := 1) rfl rfl, o_b1_some, y_isPlace, o_b1_some, y_isPlace, o_b1_some, z_isPlace, o_b1_some, z_isPlace, o_b1_some]
  by_cases g1 : x1.toInt < 0
  · rw [if_pos ((i_lt (c := 0) (C := 0) rfl).mpr g1), decide_eq_false (fun q => by omega), if_pos bI_f]
    exact bad
  rw [if_neg (fun q => g1 ((i_lt (c := 0) (C := 0) rfl).mp q))]
  by_cases g2 : 1 < x1.toInt
  · rw [if_pos ((i_gt (c := 1) (C := 1) rfl).mpr g2), decide_eq_false (fun q => by omega), if_pos bI_f]
    exact bad
  rw [if_neg (fun q => g2 ((i_gt (c := 1) (C := 1) rfl).mp q)), decide_eq_true (show 0 ≤ x1.toInt ∧ x1.toInt ≤ 1 by omega), if_neg bI_t]
  by_cases p1 : -2139095040 ≤ x2.toInt ∧ x2.toInt ≤ 2139095039
  · rw [decide_eq_true p1, if_neg bI_t, if_neg bI_t]
    by_cases p2 : -2139095040 ≤ x3.toInt ∧ x3.toInt ≤ 2139095039
    · rw [decide_eq_true p2, if_neg bI_t, if_neg bI_t]
      have s1 := z_sum (p := x2.toInt) (q := x3.toInt) p1 p2
      have s2 := y_sum (p := x2.toInt) (q := x3.toInt) p1 p2
      have s3 := z_product (p := x2.toInt) (q := x3.toInt) p1 p2
      have s4 := y_product (p := x2.toInt) (q := x3.toInt) p1 p2
      rw [← Int32_of, ← Int32_of] at s1 s2 s3 s4
      rw [s1, o_b1_some, s2, o_b1_some, s3, o_b1_some, s4, o_b1_some]
      by_cases g3 : x1 = 0
      · rw [if_pos g3, if_pos g3, o_b1_some]
        exact ⟨_, _, _, rfl, rfl, S, h, Hs, tn, hS, hC, hR, hH, hcc, hrr, hs, rfl, htn, htl, hrl, hrt, htb⟩
      · rw [if_neg g3, if_neg g3, o_b1_some]
        exact ⟨_, _, _, rfl, rfl, S, h, Hs, tn, hS, hC, hR, hH, hcc, hrr, hs, rfl, htn, htl, hrl, hrt, htb⟩
    · rw [decide_eq_false p2, if_pos bI_f, if_pos bI_f]
      exact bad
  · rw [decide_eq_false p1, if_pos bI_f, if_pos bI_f]
    exact bad
theorem L_solves (hN : 600 ≤ N) (hRel : Rel N nu nr nl nh nk nx ny nz hc hn hr sv st sf sb sp tl tb rf all past ss rr rt rl) (cc ce : Int32) (cl ch lo hi : Nat → Int32) (re rc rm tk fd : Int32) (rb rw_ : Nat → Int32) (x1 x2 : Int32) : ∃ r o_rf o_sv o_st o_sf o_sb o_cc o_ce o_cl o_ch o_lo o_hi o_sp o_re o_rc o_rm o_tk o_fd o_rr o_rb o_rw, f_X7_solves N nu nr nl nh nx ny nz nk rf sv st sf sb cc ce cl ch lo hi sp x1 x2 = some (r, o_rf, o_sv, o_st, o_sf, o_sb, o_cc, o_ce, o_cl, o_ch, o_lo, o_hi, o_sp) ∧ f_X8_solves N all re rc rm tk fd rr rb rw_ x1 x2 = some (r, o_re, o_rc, o_rm, o_tk, o_fd, o_rr, o_rb, o_rw) ∧ Rel N nu nr nl nh nk nx ny nz hc hn hr o_sv o_st o_sf o_sb o_sp tl tb o_rf all past ss o_rr rt rl := by
  obtain ⟨S, h, Hs, tn, hS, hC, hR, hH, hcc, hrr, hs, hrf, htn, htl, hrl, hrt, htb⟩ := hRel
  subst hrf
  have bad : ∃ r o_rf o_sv o_st o_sf o_sb o_cc o_ce o_cl o_ch o_lo o_hi o_sp o_re o_rc o_rm o_tk o_fd o_rr o_rb o_rw, f_X7_solves_B20 N nu nr nl nh nx ny nz nk rr sv st sf sb cc ce cl ch lo hi sp = some (r, o_rf, o_sv, o_st, o_sf, o_sb, o_cc, o_ce, o_cl, o_ch, o_lo, o_hi, o_sp) ∧ f_X8_solves_B33 N all re rc rm tk fd rr rb rw_ = some (r, o_re, o_rc, o_rm, o_tk, o_fd, o_rr, o_rb, o_rw) ∧ Rel N nu nr nl nh nk nx ny nz hc hn hr o_sv o_st o_sf o_sb o_sp tl tb o_rf all past ss o_rr rt rl := by
    unfold f_X7_solves_B20 f_X8_solves_B33
    rw [ref_same, ref_bad, o_b2_some]
    try rw [o_b2_some]
    exact ⟨_, _, _, _, _, _, _, _, _, _, _, _, _, _, _, _, _, _, _, _, _, rfl, rfl, S, h, Hs, tn, hS, hC, hR, hH, hcc, hrr, hs, rfl, htn, htl, hrl, hrt, htb⟩
  unfold f_X7_solves f_X8_solves f_X8_solved
  rw [y_in (A := 1) (B := 60) rfl rfl, o_b1_some, y_in (A := 0) (B := 2) rfl rfl, o_b1_some]
  by_cases g1 : x1.toInt < 1
  · rw [if_pos ((i_lt (c := 1) (C := 1) rfl).mpr g1), decide_eq_false (fun q => by omega), if_pos bI_f]
    exact bad
  rw [if_neg (fun q => g1 ((i_lt (c := 1) (C := 1) rfl).mp q))]
  by_cases g2 : 60 < x1.toInt
  · rw [if_pos ((i_gt (c := 60) (C := 60) rfl).mpr g2), decide_eq_false (fun q => by omega), if_pos bI_f]
    exact bad
  rw [if_neg (fun q => g2 ((i_gt (c := 60) (C := 60) rfl).mp q)), decide_eq_true (show 1 ≤ x1.toInt ∧ x1.toInt ≤ 60 by omega), if_neg bI_t]
  by_cases g3 : x2.toInt < 0
  · rw [if_pos ((i_lt (c := 0) (C := 0) rfl).mpr g3), decide_eq_false (fun q => by omega), if_pos bI_f]
    exact bad
  rw [if_neg (fun q => g3 ((i_lt (c := 0) (C := 0) rfl).mp q))]
  by_cases g4 : x2.toInt ≤ 2
  · rw [if_pos ((i_le (c := 2) (C := 2) rfl).mpr g4), decide_eq_true (show 0 ≤ x2.toInt ∧ x2.toInt ≤ 2 by omega), if_neg bI_t]
    obtain ⟨k, hk1, hk2, rfl⟩ : ∃ k : Nat, 1 ≤ k ∧ k ≤ 60 ∧ x1 = nI k := ⟨x1.toInt.toNat, by omega, by omega, by
      rw [iI_nI, show (x1.toInt.toNat : Int) = x1.toInt by omega]
      exact Int32_of⟩
    obtain ⟨v', t', l', c1, e1, bl1, bh1, lo1, hi1, pt', heq, hmem⟩ := solve_both (N := N) (k := k) (cut := cc) (empty := ce) (bl := cl) (bh := ch) (lows := lo) (highs := hi) hS (by omega) hk1 hk2 hC hs
    obtain ⟨t2, q2, fnd, P, m1, m2, m3, m4, m5, m6⟩ := id hmem
    obtain ⟨e2, c2, b2, w2, n1, n2⟩ := m6 all hR re rc rm tk fd rb rw_
    rw [heq, o_b11_some, n1, o_b7_some]
    have hsn : sC N S (nI k) v' t' l' pt' := Or.inr ⟨k, hk1, hk2, rfl, hmem⟩
    by_cases a0 : x2 = 0
    · rw [if_pos a0]
      try rw [if_pos a0]
      have ev : v' = if fnd = true then 0 else if q2 = 0 then 1 else 2 := m1
      cases fnd
      · rw [if_pos bI_f]
        rw [if_neg (by decide)] at ev
        by_cases gq : q2 = 0
        · rw [if_pos gq] at ev
          rw [if_pos (by rw [gq]; rfl), o_b8_some, ev] 
          rw [ev] at hsn
          exact ⟨_, _, _, _, _, _, _, _, _, _, _, _, _, _, _, _, _, _, _, _, _, rfl, rfl, S, h, Hs, tn, hS, hC, hR, hH, hcc, hrr, hsn, rfl, htn, htl, hrl, hrt, htb⟩
        · rw [if_neg gq] at ev
          rw [if_neg (nI_ne0 (by omega) (by omega)), o_b8_some, ev]
          rw [ev] at hsn
          exact ⟨_, _, _, _, _, _, _, _, _, _, _, _, _, _, _, _, _, _, _, _, _, rfl, rfl, S, h, Hs, tn, hS, hC, hR, hH, hcc, hrr, hsn, rfl, htn, htl, hrl, hrt, htb⟩
      · rw [if_pos rfl] at ev
        rw [if_neg bI_t, o_b8_some, ev]
        rw [ev] at hsn
        exact ⟨_, _, _, _, _, _, _, _, _, _, _, _, _, _, _, _, _, _, _, _, _, rfl, rfl, S, h, Hs, tn, hS, hC, hR, hH, hcc, hrr, hsn, rfl, htn, htl, hrl, hrt, htb⟩
    · rw [if_neg a0]
      try rw [if_neg a0]
      by_cases a1 : x2 = 1
      · rw [if_pos a1, if_pos a1, o_b8_some, m2]
        rw [m2] at hsn
        exact ⟨_, _, _, _, _, _, _, _, _, _, _, _, _, _, _, _, _, _, _, _, _, rfl, rfl, S, h, Hs, tn, hS, hC, hR, hH, hcc, hrr, hsn, rfl, htn, htl, hrl, hrt, htb⟩
      · rw [if_neg a1, if_neg a1, o_b8_some, m3]
        rw [m3] at hsn
        exact ⟨_, _, _, _, _, _, _, _, _, _, _, _, _, _, _, _, _, _, _, _, _, rfl, rfl, S, h, Hs, tn, hS, hC, hR, hH, hcc, hrr, hsn, rfl, htn, htl, hrl, hrt, htb⟩
  · rw [if_neg (fun q => g4 ((i_le (c := 2) (C := 2) rfl).mp q)), decide_eq_false (fun q => g4 q.2), if_pos bI_f]
    exact bad
theorem L_point (hN : 600 ≤ N) (hRel : Rel N nu nr nl nh nk nx ny nz hc hn hr sv st sf sb sp tl tb rf all past ss rr rt rl) (cc ce : Int32) (cl ch lo hi : Nat → Int32) (re rc rm tk fd : Int32) (rb rw_ : Nat → Int32) (x1 x2 : Int32) : ∃ r o_rf o_sv o_st o_sf o_sb o_cc o_ce o_cl o_ch o_lo o_hi o_sp o_re o_rc o_rm o_tk o_fd o_rr o_rb o_rw, f_X7_point N nu nr nl nh nx ny nz nk rf sv st sf sb cc ce cl ch lo hi sp x1 x2 = some (r, o_rf, o_sv, o_st, o_sf, o_sb, o_cc, o_ce, o_cl, o_ch, o_lo, o_hi, o_sp) ∧ f_X8_point N all re rc rm tk fd rr rb rw_ x1 x2 = some (r, o_re, o_rc, o_rm, o_tk, o_fd, o_rr, o_rb, o_rw) ∧ Rel N nu nr nl nh nk nx ny nz hc hn hr o_sv o_st o_sf o_sb o_sp tl tb o_rf all past ss o_rr rt rl := by
  obtain ⟨S, h, Hs, tn, hS, hC, hR, hH, hcc, hrr, hs, hrf, htn, htl, hrl, hrt, htb⟩ := hRel
  subst hrf
  obtain ⟨hun, hru, hu, -⟩ := id hC
  have hn6 := hS.1
  have bad : ∃ r o_rf o_sv o_st o_sf o_sb o_cc o_ce o_cl o_ch o_lo o_hi o_sp o_re o_rc o_rm o_tk o_fd o_rr o_rb o_rw, f_X7_point_B22 N nu nr nl nh nx ny nz nk rr sv st sf sb cc ce cl ch lo hi sp = some (r, o_rf, o_sv, o_st, o_sf, o_sb, o_cc, o_ce, o_cl, o_ch, o_lo, o_hi, o_sp) ∧ f_X8_point_B20 N all re rc rm tk fd rr rb rw_ = some (r, o_re, o_rc, o_rm, o_tk, o_fd, o_rr, o_rb, o_rw) ∧ Rel N nu nr nl nh nk nx ny nz hc hn hr o_sv o_st o_sf o_sb o_sp tl tb o_rf all past ss o_rr rt rl := by
    unfold f_X7_point_B22 f_X8_point_B20
    rw [ref_same, ref_bad, o_b2_some]
    try rw [o_b2_some]
    exact ⟨_, _, _, _, _, _, _, _, _, _, _, _, _, _, _, _, _, _, _, _, _, rfl, rfl, S, h, Hs, tn, hS, hC, hR, hH, hcc, hrr, hs, rfl, htn, htl, hrl, hrt, htb⟩
  unfold f_X7_point f_X8_point
  rw [y_in (A := 1) (B := 60) rfl rfl, o_b1_some, show f_X3_hasUnknown nu x2 = f_X3_hasUnknown (nI (sn S)) x2 by rw [hun], z_has hS.1, o_b1_some, y_has hS hR, o_b1_some]
  by_cases g1 : x1.toInt < 1
  · rw [if_pos ((i_lt (c := 1) (C := 1) rfl).mpr g1), decide_eq_false (fun q => by omega), if_pos bI_f]
    exact bad
  rw [if_neg (fun q => g1 ((i_lt (c := 1) (C := 1) rfl).mp q))]
  by_cases g2 : 60 < x1.toInt
  · rw [if_pos ((i_gt (c := 60) (C := 60) rfl).mpr g2), decide_eq_false (fun q => by omega), if_pos bI_f]
    exact bad
  rw [if_neg (fun q => g2 ((i_gt (c := 60) (C := 60) rfl).mp q)), decide_eq_true (show 1 ≤ x1.toInt ∧ x1.toInt ≤ 60 by omega), if_neg bI_t]
  by_cases g3 : 0 ≤ x2.toInt ∧ x2.toInt ≤ (sn S : Int) - 1
  · obtain ⟨u, hu', rfl⟩ := nI_at hS.1 g3
    rw [decide_eq_true g3, if_neg bI_t, if_neg bI_t]
    obtain ⟨k, hk1, hk2, rfl⟩ : ∃ k : Nat, 1 ≤ k ∧ k ≤ 60 ∧ x1 = nI k := ⟨x1.toInt.toNat, by omega, by omega, by
      rw [iI_nI, show (x1.toInt.toNat : Int) = x1.toInt by omega]
      exact Int32_of⟩
    obtain ⟨v', t', l', c1, e1, bl1, bh1, lo1, hi1, pt', heq, hmem⟩ := solve_both (N := N) (k := k) (cut := cc) (empty := ce) (bl := cl) (bh := ch) (lows := lo) (highs := hi) hS (by omega) hk1 hk2 hC hs
    obtain ⟨t2, q2, fnd, P, m1, m2, m3, m4, m5, m6⟩ := id hmem
    obtain ⟨e2, c2, b2, w2, n1, n2⟩ := m6 all hR re rc rm tk fd rb rw_
    rw [heq, o_b11_some, n1, o_b7_some, ref_same, ref_no, o_b2_some]
    try rw [o_b2_some]
    have hsn : sC N S (nI k) v' t' l' pt' := Or.inr ⟨k, hk1, hk2, rfl, hmem⟩
    cases fnd
    · rw [if_neg (fun q => by rw [m1] at q; exact absurd (vd_0.mp q) (by decide)), if_pos bI_f]
      exact ⟨_, _, _, _, _, _, _, _, _, _, _, _, _, _, _, _, _, _, _, _, _, rfl, rfl, S, h, Hs, tn, hS, hC, hR, hH, hcc, hrr, hsn, rfl, htn, htl, hrl, hrt, htb⟩
    · rw [if_pos (by rw [m1]; rfl), if_neg bI_t, o_inN (by omega) (by decide), nI_clamp (by omega), m5 rfl u hu', y_lowL hn6 hu' (n2 rfl), o_b1_some]
      exact ⟨_, _, _, _, _, _, _, _, _, _, _, _, _, _, _, _, _, _, _, _, _, rfl, rfl, S, h, Hs, tn, hS, hC, hR, hH, hcc, hrr, hsn, rfl, htn, htl, hrl, hrt, htb⟩
  · rw [decide_eq_false g3, if_pos bI_f, if_pos bI_f]
    exact bad
end calls
