/-! ===== both states side by side, and the calls ===== -/
def Rel (N : Nat) (nu nr : Int32) (nl nh nk nx ny nz : Nat → Int32) (hc hn : Int32) (hr : Nat → g_MV) (sv st sf sb : Int32) (sp : Nat → Int32) (tl : Int32) (tb rf : Nat → Int32) (all past : Nat → Int32) (ss : Int32) (rr rt : Nat → Int32) (rl : Int32) : Prop :=
  ∃ (S : mS) (h : Nat) (Hs : Nat → mS) (tn : Nat), mOK S ∧ mC S nu nr nl nh nk nx ny nz ∧ mR S all ∧ hOK h Hs ∧ hsC h Hs hc hn hr ∧ hsR h Hs ss past ∧ sC N S sb sv st sf sp ∧ rr = rf ∧ tn ≤ 120 ∧ tl = nI tn ∧ rl = nI tn ∧ rt = tb ∧ ∀ i, i < tn → 0 ≤ (tb i).toInt ∧ (tb i).toInt ≤ 127
theorem ref_same (v : Nat → Int32) (x : Int32) : f_X8_refuses v x = f_X7_refused v x := rfl
theorem ref_bad (v : Nat → Int32) : f_X7_refused v (-2139095050) = some (-2139095050, upd v 0 (v 0 + 1)) := rfl
theorem ref_no (v : Nat → Int32) : f_X7_refused v (-2139095051) = some (-2139095051, upd v 1 (v 1 + 1)) := rfl
theorem ref_full (v : Nat → Int32) : f_X7_refused v (-2139095052) = some (-2139095052, upd v 2 (v 2 + 1)) := rfl
section calls
variable {N : Nat} {nu nr : Int32} {nl nh nk nx ny nz : Nat → Int32} {hc hn : Int32} {hr : Nat → g_MV} {sv st sf sb : Int32} {sp : Nat → Int32} {tl : Int32} {tb rf : Nat → Int32} {all past : Nat → Int32} {ss : Int32} {rr rt : Nat → Int32} {rl : Int32}
theorem L_unknown (hN : 600 ≤ N) (hRel : Rel N nu nr nl nh nk nx ny nz hc hn hr sv st sf sb sp tl tb rf all past ss rr rt rl) (x1 x2 : Int32) : ∃ r o_nu o_hc o_hn o_hr o_nl o_nh o_sb o_rf o_ss o_all o_past o_rr, f_X7_unknown nr nk nx ny nz nu hc hn hr nl nh sb rf x1 x2 = some (r, o_nu, o_hc, o_hn, o_hr, o_nl, o_nh, o_sb, o_rf) ∧ f_X8_unknown N ss all past rr x1 x2 = some (r, o_ss, o_all, o_past, o_rr) ∧ Rel N o_nu nr o_nl o_nh nk nx ny nz o_hc o_hn o_hr sv st sf o_sb sp tl tb o_rf o_all o_past o_ss o_rr rt rl := by
  obtain ⟨S, h, Hs, tn, hS, hC, hR, hH, hcc, hrr, hs, hrf, htn, htl, hrl, hrt, htb⟩ := hRel
  subst hrf
  obtain ⟨hun, hru, -, -⟩ := id hC
  obtain ⟨c, c1, c2, c3⟩ := can_unknown hS hR x1 x2
  unfold f_X7_unknown f_X8_unknown
  rw [hun, c1, o_b1_some, c2, o_b1_some, ref_same]
  rcases c3 with ⟨h0, p1, p2, p3, p4⟩ | h0 | h0
  · rw [h0, if_pos rfl, if_pos (by decide)]
    rw [hun] at hC
    obtain ⟨a1, a2, a3⟩ := addU hS p1 p2 p3 p4
    obtain ⟨c', n', r', hk, hkC⟩ := z_keep (sb := sb) hS hC hH hcc
    obtain ⟨s', p', hk2, hkR⟩ := y_keep (N := N) (by omega) hS hR hH hrr
    obtain ⟨l', h', b1, b2⟩ := a2 nr nl nh nk nx ny nz hC
    obtain ⟨all', b3, b4⟩ := a3 all hR
    rw [← Int32_of, ← Int32_of] at b1 b3
    rw [hk, o_b4_some, b1, o_b4_some, hk2, o_b2_some, b3, o_b2_some]
    exact ⟨_, _, _, _, _, _, _, _, _, _, _, _, _, rfl, rfl, sAddU S x1.toInt x2.toInt, kh h, kH h Hs S, tn, a1, b2, b4, kOK hH hS, hkC, hkR, Or.inl rfl, rfl, htn, htl, hrl, hrt, htb⟩
  · rw [h0, if_neg (by decide), if_neg (by decide), ref_bad, o_b2_some, o_b2_some]
    rw [hun] at hC
    exact ⟨_, _, _, _, _, _, _, _, _, _, _, _, _, rfl, rfl, S, h, Hs, tn, hS, hC, hR, hH, hcc, hrr, hs, rfl, htn, htl, hrl, hrt, htb⟩
  · rw [h0, if_neg (by decide), if_neg (by decide), ref_full, o_b2_some, o_b2_some]
    rw [hun] at hC
    exact ⟨_, _, _, _, _, _, _, _, _, _, _, _, _, rfl, rfl, S, h, Hs, tn, hS, hC, hR, hH, hcc, hrr, hs, rfl, htn, htl, hrl, hrt, htb⟩
theorem o_b6_some {A1 A2 A3 A4 A5 A6 β : Type} (a1 : A1) (a2 : A2) (a3 : A3) (a4 : A4) (a5 : A5) (a6 : A6) (k : A1 → A2 → A3 → A4 → A5 → A6 → Option β) : o_b6 (some (a1, a2, a3, a4, a5, a6)) k = k a1 a2 a3 a4 a5 a6 := rfl
theorem L_rule (hN : 600 ≤ N) (hRel : Rel N nu nr nl nh nk nx ny nz hc hn hr sv st sf sb sp tl tb rf all past ss rr rt rl) (x1 x2 x3 x4 : Int32) : ∃ r o_nr o_hc o_hn o_hr o_nk o_nx o_ny o_nz o_sb o_rf o_ss o_all o_past o_rr, f_X7_rule nu nl nh nr hc hn hr nk nx ny nz sb rf x1 x2 x3 x4 = some (r, o_nr, o_hc, o_hn, o_hr, o_nk, o_nx, o_ny, o_nz, o_sb, o_rf) ∧ f_X8_rule N ss all past rr x1 x2 x3 x4 = some (r, o_ss, o_all, o_past, o_rr) ∧ Rel N nu o_nr nl nh o_nk o_nx o_ny o_nz o_hc o_hn o_hr sv st sf o_sb sp tl tb o_rf o_all o_past o_ss o_rr rt rl := by
  obtain ⟨S, h, Hs, tn, hS, hC, hR, hH, hcc, hrr, hs, hrf, htn, htl, hrl, hrt, htb⟩ := hRel
  subst hrf
  obtain ⟨hun, hru, -, -⟩ := id hC
  obtain ⟨c, c1, c2, c3⟩ := can_rule hS hR x1 x2 x3 x4
  unfold f_X7_rule f_X8_rule
  rw [hun, hru, c1, o_b1_some, c2, o_b1_some, ref_same]
  rw [hun, hru] at hC
  rcases c3 with ⟨h0, m6, k, x, y, z, p1, p2, p3, p4, rfl, rfl, rfl, rfl⟩ | h0 | h0
  · rw [h0, if_pos rfl, if_pos (by decide)]
    obtain ⟨a1, a2, a3⟩ := addR hS p1 p2 p3 p4 m6
    obtain ⟨c', n', r', hk, hkC⟩ := z_keep (sb := sb) hS hC hH hcc
    obtain ⟨s', p', hk2, hkR⟩ := y_keep (N := N) (by omega) hS hR hH hrr
    obtain ⟨kd', x', y', z', b1, b2⟩ := a2 _ nl nh nk nx ny nz hC
    obtain ⟨all', b3, b4⟩ := a3 all hR
    rw [hk, o_b4_some, b1, o_b6_some, hk2, o_b2_some, b3, o_b2_some]
    exact ⟨_, _, _, _, _, _, _, _, _, _, _, _, _, _, _, rfl, rfl, sAddR S k x y z, kh h, kH h Hs S, tn, a1, b2, b4, kOK hH hS, hkC, hkR, Or.inl rfl, rfl, htn, htl, hrl, hrt, htb⟩
  · rw [h0, if_neg (by decide), if_neg (by decide), ref_bad, o_b2_some, o_b2_some]
    exact ⟨_, _, _, _, _, _, _, _, _, _, _, _, _, _, _, rfl, rfl, S, h, Hs, tn, hS, hC, hR, hH, hcc, hrr, hs, rfl, htn, htl, hrl, hrt, htb⟩
  · rw [h0, if_neg (by decide), if_neg (by decide), ref_full, o_b2_some, o_b2_some]
    exact ⟨_, _, _, _, _, _, _, _, _, _, _, _, _, _, _, rfl, rfl, S, h, Hs, tn, hS, hC, hR, hH, hcc, hrr, hs, rfl, htn, htl, hrl, hrt, htb⟩
theorem L_drops (hN : 600 ≤ N) (hRel : Rel N nu nr nl nh nk nx ny nz hc hn hr sv st sf sb sp tl tb rf all past ss rr rt rl) (x1 : Int32) : ∃ r o_nr o_hc o_hn o_hr o_nk o_nx o_ny o_nz o_sb o_rf o_ss o_all o_past o_rr, f_X7_drops N nu nl nh nr hc hn hr nk nx ny nz sb rf x1 = some (r, o_nr, o_hc, o_hn, o_hr, o_nk, o_nx, o_ny, o_nz, o_sb, o_rf) ∧ f_X8_drops N ss all past rr x1 = some (r, o_ss, o_all, o_past, o_rr) ∧ Rel N nu o_nr nl nh o_nk o_nx o_ny o_nz o_hc o_hn o_hr sv st sf o_sb sp tl tb o_rf o_all o_past o_ss o_rr rt rl := by
  obtain ⟨S, h, Hs, tn, hS, hC, hR, hH, hcc, hrr, hs, hrf, htn, htl, hrl, hrt, htb⟩ := hRel
  subst hrf
  obtain ⟨hun, hru, -, -⟩ := id hC
  unfold f_X7_drops f_X8_drops
  rw [hun, hru, z_hasR hS.2.1, o_b1_some, y_hasR hS hR, o_b1_some, ref_same]
  rw [hun, hru] at hC
  by_cases g : 0 ≤ x1.toInt ∧ x1.toInt ≤ (sm S : Int) - 1
  · obtain ⟨k, hk, rfl⟩ := nI_at hS.2.1 g
    rw [decide_eq_true g, if_neg bI_t, if_neg bI_t]
    obtain ⟨a1, a2, a3⟩ := dropR (N := N) (by omega) hS hk
    obtain ⟨c', n', r', hk1, hkC⟩ := z_keep (sb := sb) hS hC hH hcc
    obtain ⟨s', p', hk2, hkR⟩ := y_keep (N := N) (by omega) hS hR hH hrr
    obtain ⟨kd', x', y', z', b1, b2⟩ := a2 _ nl nh nk nx ny nz hC
    obtain ⟨all', b3, b4⟩ := a3 all hR
    rw [hk1, o_b4_some, b1, o_b6_some, hk2, o_b2_some, b3, o_b2_some]
    exact ⟨_, _, _, _, _, _, _, _, _, _, _, _, _, _, _, rfl, rfl, sDrop S k, kh h, kH h Hs S, tn, a1, b2, b4, kOK hH hS, hkC, hkR, Or.inl rfl, rfl, htn, htl, hrl, hrt, htb⟩
  · rw [decide_eq_false g, if_pos bI_f, if_pos bI_f, ref_bad, o_b2_some, o_b2_some]
    exact ⟨_, _, _, _, _, _, _, _, _, _, _, _, _, _, _, rfl, rfl, S, h, Hs, tn, hS, hC, hR, hH, hcc, hrr, hs, rfl, htn, htl, hrl, hrt, htb⟩
theorem L_range (hN : 600 ≤ N) (hRel : Rel N nu nr nl nh nk nx ny nz hc hn hr sv st sf sb sp tl tb rf all past ss rr rt rl) (x1 x2 x3 : Int32) : ∃ r o_rf o_hc o_hn o_hr o_nl o_nh o_sb o_ss o_all o_rr o_past, f_X7_range N nu nr nk nx ny nz rf hc hn hr nl nh sb x1 x2 x3 = some (r, o_rf, o_hc, o_hn, o_hr, o_nl, o_nh, o_sb) ∧ f_X8_range N ss all rr past x1 x2 x3 = some (r, o_ss, o_all, o_rr, o_past) ∧ Rel N nu nr o_nl o_nh nk nx ny nz o_hc o_hn o_hr sv st sf o_sb sp tl tb o_rf o_all o_past o_ss o_rr rt rl := by
  obtain ⟨S, h, Hs, tn, hS, hC, hR, hH, hcc, hrr, hs, hrf, htn, htl, hrl, hrt, htb⟩ := hRel
  subst hrf
  obtain ⟨hun, hru, -, -⟩ := id hC
  have bad : ∃ r o_rf o_hc o_hn o_hr o_nl o_nh o_sb o_ss o_all o_rr o_past, f_X7_range_B19 N nu nr nk nx ny nz rr hc hn hr nl nh sb = some (r, o_rf, o_hc, o_hn, o_hr, o_nl, o_nh, o_sb) ∧ f_X8_range_B27 N ss all rr past = some (r, o_ss, o_all, o_rr, o_past) ∧ Rel N nu nr o_nl o_nh nk nx ny nz o_hc o_hn o_hr sv st sf o_sb sp tl tb o_rf o_all o_past o_ss o_rr rt rl := by
    unfold f_X7_range_B19 f_X8_range_B27
    rw [ref_same, ref_bad, o_b2_some, o_b2_some]
    exact ⟨_, _, _, _, _, _, _, _, _, _, _, _, rfl, rfl, S, h, Hs, tn, hS, hC, hR, hH, hcc, hrr, hs, rfl, htn, htl, hrl, hrt, htb⟩
  unfold f_X7_range f_X8_range f_X4_isRange
  rw [z_isPlace, o_b1_some, z_isPlace, o_b1_some, y_isPlace, o_b1_some, y_isPlace, o_b1_some, show f_X3_hasUnknown nu x1 = f_X3_hasUnknown (nI (sn S)) x1 by rw [hun], z_has hS.1, o_b1_some, y_has hS hR, o_b1_some]
  by_cases g1 : 0 ≤ x1.toInt ∧ x1.toInt ≤ (sn S : Int) - 1
  · rw [decide_eq_true g1, if_neg bI_t, if_neg bI_t]
    by_cases g2 : -2139095040 ≤ x2.toInt ∧ x2.toInt ≤ 2139095039
    · rw [decide_eq_true g2, if_neg bI_t, if_neg bI_t]
      by_cases g3 : -2139095040 ≤ x3.toInt ∧ x3.toInt ≤ 2139095039
      · rw [decide_eq_true g3, if_neg bI_t, if_neg bI_t]
        by_cases g4 : x2.toInt ≤ x3.toInt
        · rw [if_neg (fun q => by have := Int32.lt_iff_toInt_lt.mp q; omega), o_b1_some, if_neg (by decide), if_pos (Int32.le_iff_toInt_le.mpr g4)]
          obtain ⟨u, hu, rfl⟩ := nI_at hS.1 g1
          have hn6 := hS.1
          obtain ⟨a1, a2, a3⟩ := setR hS hu g2 g3 g4
          obtain ⟨c', n', r', hk1, hkC⟩ := z_keep (sb := sb) hS hC hH hcc
          obtain ⟨s', p', hk2, hkR⟩ := y_keep (N := N) (by omega) hS hR hH hrr
          have m6 := hS.2.1
          obtain ⟨cc, e1, e2⟩ := rulesOf_loop (S := sRange S u x2.toInt x3.toInt) (N := N) (x1 := nI u) a1 (sm S) 0 0 N (Nat.zero_add _) (by omega)
          have b2 := a2 nu nr nl nh nk nx ny nz hC
          have b4 := a3 all hR
          rw [← Int32_of, ← Int32_of] at b2 b4
          have d1 : (1 : Int32) + 2 * nI u = nI (1 + 2 * u) := by
            rw [show (1 : Int32) = nI 1 from rfl, show (2 : Int32) = nI 2 from rfl, pk_mul, nI_add]
          have d2 : (2 : Int32) + 2 * nI u = nI (2 + 2 * u) := by
            rw [show (2 : Int32) = nI 2 from rfl, pk_mul, nI_add]
          have e1' : f_X3_rulesOf N nr nx ny nk nz (nI u) = some cc := by
            unfold f_X3_rulesOf
            rw [hru]
            exact e1 nk nx ny nz b2.2.2.2
          have e2' : f_X8_range_L66 N N s' (upd (upd all (1 + 2 * u) x2) (2 + 2 * u) x3) rr p' (nI u) 0 0 = some (cc, s', upd (upd all (1 + 2 * u) x2) (2 + 2 * u) x3, rr, p') := e2 _ b4 s' rr p'
          rw [hk1, o_b4_some, hk2, o_b2_some, o_inN (by omega) (by decide), o_inN (by omega) (by decide), e1', o_b1_some, d1, d2, o_inN (by omega) (by decide), o_inN (by omega) (by decide), nI_clamp (by omega), nI_clamp (by omega), nI_clamp (by omega), e2']
          exact ⟨_, _, _, _, _, _, _, _, _, _, _, _, rfl, rfl, sRange S u x2.toInt x3.toInt, kh h, kH h Hs S, tn, a1, b2, b4, kOK hH hS, hkC, hkR, Or.inl rfl, rfl, htn, htl, hrl, hrt, htb⟩
        · rw [if_pos (Int32.lt_iff_toInt_lt.mpr (by omega)), o_b1_some, if_pos rfl, if_neg (fun q => g4 (Int32.le_iff_toInt_le.mp q))]
          exact bad
      · rw [decide_eq_false g3, if_pos bI_f, o_b1_some, if_pos rfl, if_pos bI_f]
        exact bad
    · rw [decide_eq_false g2, if_pos bI_f, o_b1_some, if_pos rfl, if_pos bI_f]
      exact bad
  · rw [decide_eq_false g1, if_pos bI_f, if_pos bI_f]
    exact bad
theorem L_cuts (hN : 600 ≤ N) (hRel : Rel N nu nr nl nh nk nx ny nz hc hn hr sv st sf sb sp tl tb rf all past ss rr rt rl) (cc ce : Int32) (cl ch : Nat → Int32) (re rc : Int32) (rb : Nat → Int32) : ∃ r o_hc o_hn o_hr o_nl o_nh o_sb o_cc o_ce o_cl o_ch o_ss o_re o_rc o_all o_past o_rb, f_X7_cuts N nu nr nk nx ny nz hc hn hr nl nh sb cc ce cl ch = some (r, o_hc, o_hn, o_hr, o_nl, o_nh, o_sb, o_cc, o_ce, o_cl, o_ch) ∧ f_X8_cuts N ss re rc all past rb = some (r, o_ss, o_re, o_rc, o_all, o_past, o_rb) ∧ Rel N nu nr o_nl o_nh nk nx ny nz o_hc o_hn o_hr sv st sf o_sb sp tl tb rf o_all o_past o_ss rr rt rl := by
  obtain ⟨S, h, Hs, tn, hS, hC, hR, hH, hcc, hrr, hs, hrf, htn, htl, hrl, hrt, htb⟩ := hRel
  obtain ⟨r, S', hS', cC, cR⟩ := cut_now (N := N) hS (by omega)
  obtain ⟨c', n', r', hk1, hkC⟩ := z_keep (sb := sb) hS hC hH hcc
  obtain ⟨s', p', hk2, hkR⟩ := y_keep (N := N) (by omega) hS hR hH hrr
  obtain ⟨c1, e1, l1, cl1, h1, ch1, b1, b2⟩ := cC nu nr nl nh nk nx ny nz hC cc ce cl ch
  obtain ⟨e2, c2, all2, bx2, b3, b4⟩ := cR all hR re rc rb
  unfold f_X7_cuts f_X8_cuts
  rw [hk1, o_b4_some, b1, o_b7_some, hk2, o_b2_some, b3, o_b5_some]
  exact ⟨_, _, _, _, _, _, _, _, _, _, _, _, _, _, _, _, _, rfl, rfl, S', kh h, kH h Hs S, tn, hS', b2, b4, kOK hH hS, hkC, hkR, Or.inl rfl, hrf, htn, htl, hrl, hrt, htb⟩
end calls
