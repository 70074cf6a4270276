/-! ===== typing, the way back, what is told, the digest ===== -/
theorem tally_both {S : mS} {h : Nat} {tl nu nr hc ss rl : Int32} {rf all : Nat → Int32} (hu : nu = nI (sn S)) (hm : nr = nI (sm S)) (hR : mR S all) (hh : hc = nI h) (hs : ss = nI h) (ht : rl = tl) {j : Nat} (hj : j ≤ 6) : ∃ v, f_X7_tally tl nu nr hc rf (nI j) = some v ∧ f_X8_toldOf ss rl all rf (nI j) = some v := by
  unfold f_X7_tally f_X8_toldOf
  rw [y_unknowns hR, o_b1_some, y_rules hR, o_b1_some, hu, hm, hh, hs, ht]
  rcases (show j = 0 ∨ j = 1 ∨ j = 2 ∨ j = 3 ∨ j = 4 ∨ j = 5 ∨ j = 6 by omega) with rfl | rfl | rfl | rfl | rfl | rfl | rfl
  · exact ⟨rf 0, rfl, rfl⟩
  · exact ⟨rf 1, rfl, rfl⟩
  · exact ⟨rf 2, rfl, rfl⟩
  · exact ⟨tl, rfl, rfl⟩
  · exact ⟨nI (sn S), rfl, rfl⟩
  · exact ⟨nI (sm S), rfl, rfl⟩
  · exact ⟨nI h, rfl, rfl⟩
section calls
variable {N : Nat} {nu nr : Int32} {nl nh nk nx ny nz : Nat → Int32} {hc hn : Int32} {hr : Nat → g_MV} {sv st sf sb : Int32} {sp : Nat → Int32} {tl : Int32} {tb rf : Nat → Int32} {all past : Nat → Int32} {ss : Int32} {rr rt : Nat → Int32} {rl : Int32}
theorem L_type (hRel : Rel N nu nr nl nh nk nx ny nz hc hn hr sv st sf sb sp tl tb rf all past ss rr rt rl) (x1 : Int32) : ∃ r o_rf o_tl o_tb o_rl o_rt o_rr, f_X7_type rf tl tb x1 = some (r, o_rf, o_tl, o_tb) ∧ f_X8_type rl rt rr x1 = some (r, o_rl, o_rt, o_rr) ∧ Rel N nu nr nl nh nk nx ny nz hc hn hr sv st sf sb sp o_tl o_tb o_rf all past ss o_rr o_rt o_rl := by
  obtain ⟨S, h, Hs, tn, hS, hC, hR, hH, hcc, hrr, hs, hrf, htn, htl, hrl, hrt, htb⟩ := hRel
  subst hrf
  subst hrt
  have bad : ∃ r o_rf o_tl o_tb o_rl o_rt o_rr, f_X7_type_B10 rr tl rt = some (r, o_rf, o_tl, o_tb) ∧ (some ((-2139095050 : Int32), rl, rt, upd rr 0 (rr 0 + 1))) = some (r, o_rl, o_rt, o_rr) ∧ Rel N nu nr nl nh nk nx ny nz hc hn hr sv st sf sb sp o_tl o_tb o_rf all past ss o_rr o_rt o_rl := by
    unfold f_X7_type_B10
    rw [ref_bad, o_b2_some]
    exact ⟨_, _, _, _, _, _, _, rfl, rfl, S, h, Hs, tn, hS, hC, hR, hH, hcc, hrr, hs, rfl, htn, htl, hrl, rfl, htb⟩
  unfold f_X7_type f_X8_type
  rw [y_in (A := 0) (B := 127) rfl rfl, o_b1_some, ref_same, ref_bad, o_b2_some, ref_same, ref_full, o_b2_some, o_b2_some]
  by_cases g1 : x1.toInt < 0
  · rw [if_pos ((i_lt (c := 0) (C := 0) rfl).mpr g1), decide_eq_false (fun q => by omega), if_pos bI_f]
    exact bad
  rw [if_neg (fun q => g1 ((i_lt (c := 0) (C := 0) rfl).mp q))]
  by_cases g2 : x1.toInt ≤ 127
  · rw [if_pos ((i_le (c := 127) (C := 127) rfl).mpr g2), decide_eq_true (show 0 ≤ x1.toInt ∧ x1.toInt ≤ 127 by omega), if_neg bI_t, htl, hrl]
    have i1 : (nI tn < (120 : Int32)) ↔ tn < 120 := nI_ltI (by omega) (by decide)
    have i2 : (nI tn = (120 : Int32)) ↔ tn = 120 := nI_eq (by omega) (by decide)
    by_cases g3 : tn < 120
    · rw [if_pos (i1.mpr g3), if_neg (fun q => by have := i2.mp q; omega), o_inN g3 (by decide), o_inN g3 (by decide), nI_clamp (by omega), nI_1]
      refine ⟨_, _, _, _, _, _, _, rfl, rfl, S, h, Hs, tn + 1, hS, hC, hR, hH, hcc, hrr, hs, rfl, by omega, rfl, rfl, rfl, fun i hi => ?_⟩
      by_cases g : i = tn
      · rw [g, pk_us]
        omega
      · rw [pk_un g]
        exact htb i (by omega)
    · rw [if_neg (fun q => g3 (i1.mp q)), if_pos (i2.mpr (by omega))]
      exact ⟨_, _, _, _, _, _, _, rfl, rfl, S, h, Hs, tn, hS, hC, hR, hH, hcc, hrr, hs, rfl, htn, rfl, rfl, rfl, htb⟩
  · rw [if_neg (fun q => g2 ((i_le (c := 127) (C := 127) rfl).mp q)), decide_eq_false (fun q => g2 q.2), if_pos bI_f]
    exact bad
theorem L_clear (hRel : Rel N nu nr nl nh nk nx ny nz hc hn hr sv st sf sb sp tl tb rf all past ss rr rt rl) : ∃ r o_tl o_rl, f_X7_clear tl = some (r, o_tl) ∧ f_X8_clear rl = some (r, o_rl) ∧ Rel N nu nr nl nh nk nx ny nz hc hn hr sv st sf sb sp o_tl tb rf all past ss rr rt o_rl := by
  obtain ⟨S, h, Hs, tn, hS, hC, hR, hH, hcc, hrr, hs, hrf, htn, htl, hrl, hrt, htb⟩ := hRel
  refine ⟨nI tn, 0, 0, ?_, ?_, S, h, Hs, 0, hS, hC, hR, hH, hcc, hrr, hs, hrf, by omega, rfl, rfl, hrt, fun i hi => absurd hi (by omega)⟩
  · unfold f_X7_clear
    rw [htl]
  · unfold f_X8_clear
    rw [hrl]
theorem L_back (hN : 600 ≤ N) (hRel : Rel N nu nr nl nh nk nx ny nz hc hn hr sv st sf sb sp tl tb rf all past ss rr rt rl) : ∃ r o_hc o_hn o_nu o_nr o_nl o_nh o_nk o_nx o_ny o_nz o_sb o_rf o_ss o_all o_rr, f_X7_back hr hc hn nu nr nl nh nk nx ny nz sb rf = some (r, o_hc, o_hn, o_nu, o_nr, o_nl, o_nh, o_nk, o_nx, o_ny, o_nz, o_sb, o_rf) ∧ f_X8_back N past ss all rr = some (r, o_ss, o_all, o_rr) ∧ Rel N o_nu o_nr o_nl o_nh o_nk o_nx o_ny o_nz o_hc o_hn hr sv st sf o_sb sp tl tb o_rf o_all past o_ss o_rr rt rl := by
  obtain ⟨S, h, Hs, tn, hS, hC, hR, hH, hcc, hrr, hs, hrf, htn, htl, hrl, hrt, htb⟩ := hRel
  subst hrf
  have h5 := hH.1
  by_cases g : h = 0
  · subst g
    have e1 : hc = 0 := hcc.1
    have e2 : ss = 0 := hrr.1
    unfold f_X7_back f_X8_back
    rw [if_pos e1, if_pos e2, ref_same, ref_no, o_b2_some, o_b2_some]
    exact ⟨_, _, _, _, _, _, _, _, _, _, _, _, _, _, _, _, rfl, rfl, S, 0, Hs, tn, hS, hC, hR, hH, hcc, hrr, hs, rfl, htn, htl, hrl, hrt, htb⟩
  · obtain ⟨h0, rfl⟩ : ∃ h0, h = h0 + 1 := ⟨h - 1, by omega⟩
    obtain ⟨n', un', ru', l', h', kd', x', y', z', a1, a2, a3⟩ := z_back (un := nu) (ru := nr) (l := nl) (hh := nh) (kd := nk) (x := nx) (y := ny) (z := nz) hH hcc
    obtain ⟨all', b1, b2, b3⟩ := y_back (N := N) (all := all) (rf := rr) (by omega) hH hrr
    have e1 : ¬ hc = 0 := by
      rw [hcc.1]
      exact nI_ne0 (by omega) (by omega)
    unfold f_X7_back f_X5_forget
    rw [if_neg e1, a1, o_b10_some, o_b1_some, b1]
    exact ⟨_, _, _, _, _, _, _, _, _, _, _, _, _, _, _, _, rfl, rfl, Hs h0, h0, Hs, tn, hH.2 h0 (by omega), a2, b2, ⟨by omega, fun i hi => hH.2 i (by omega)⟩, a3, b3, Or.inl rfl, rfl, htn, htl, hrl, hrt, htb⟩
theorem L_told (hRel : Rel N nu nr nl nh nk nx ny nz hc hn hr sv st sf sb sp tl tb rf all past ss rr rt rl) (x1 : Int32) : ∃ r o_rf o_rr, f_X7_told tl nu nr hc rf x1 = some (r, o_rf) ∧ f_X8_told ss rl all rr x1 = some (r, o_rr) ∧ Rel N nu nr nl nh nk nx ny nz hc hn hr sv st sf sb sp tl tb o_rf all past ss o_rr rt rl := by
  obtain ⟨S, h, Hs, tn, hS, hC, hR, hH, hcc, hrr, hs, hrf, htn, htl, hrl, hrt, htb⟩ := hRel
  subst hrf
  have bad : ∃ r o_rf o_rr, f_X7_told_B10 tl nu nr hc rr = some (r, o_rf) ∧ (some ((-2139095050 : Int32), upd rr 0 (rr 0 + 1))) = some (r, o_rr) ∧ Rel N nu nr nl nh nk nx ny nz hc hn hr sv st sf sb sp tl tb o_rf all past ss o_rr rt rl := by
    unfold f_X7_told_B10
    rw [ref_bad, o_b2_some]
    exact ⟨_, _, _, rfl, rfl, S, h, Hs, tn, hS, hC, hR, hH, hcc, hrr, hs, rfl, htn, htl, hrl, hrt, htb⟩
  unfold f_X7_told f_X8_told
  rw [y_in (A := 0) (B := 6) rfl rfl, o_b1_some, ref_same, ref_bad, o_b2_some]
  by_cases g1 : x1.toInt < 0
  · rw [if_pos ((i_lt (c := 0) (C := 0) rfl).mpr g1), decide_eq_false (fun q => by omega), if_pos bI_f]
    exact bad
  rw [if_neg (fun q => g1 ((i_lt (c := 0) (C := 0) rfl).mp q))]
  by_cases g2 : x1.toInt ≤ 6
  · rw [if_pos ((i_le (c := 6) (C := 6) rfl).mpr g2), decide_eq_true (show 0 ≤ x1.toInt ∧ x1.toInt ≤ 6 by omega), if_neg bI_t]
    obtain ⟨j, hj, rfl⟩ : ∃ j : Nat, j ≤ 6 ∧ x1 = nI j := ⟨x1.toInt.toNat, by omega, by
      rw [iI_nI, show (x1.toInt.toNat : Int) = x1.toInt by omega]
      exact Int32_of⟩
    obtain ⟨v, v1, v2⟩ := tally_both (rf := rr) hC.1 hC.2.1 hR hcc.1 hrr.1 (hrl.trans htl.symm) hj
    rw [v1, o_b1_some, v2, o_b1_some]
    exact ⟨_, _, _, rfl, rfl, S, h, Hs, tn, hS, hC, hR, hH, hcc, hrr, hs, rfl, htn, htl, hrl, hrt, htb⟩
  · rw [if_neg (fun q => g2 ((i_le (c := 6) (C := 6) rfl).mp q)), decide_eq_false (fun q => g2 q.2), if_pos bI_f]
    exact bad
end calls
/-! the digest -/
theorem dig86 {S : mS} {N : Nat} {nu nr tl hc ss rl : Int32} {nk nx nl ny nz nh rf all : Nat → Int32} (hS : mOK S) (hN : 600 ≤ N) (hC : mC S nu nr nl nh nk nx ny nz) (hR : mR S all) : ∀ (j k F F' : Nat) (v : Int64) (e : Int32) (b : Nat → Int32), k + j = sm S → j < F → 4 * j < F' → ∃ r e' b', f_X7_digest_L86 N nu nr nk nx nl ny nz nh tl hc rf F v (nI k) = some r ∧ f_X8_digest_L65 N ss rl all rf F' e b v (nI (4 * k)) = some (r, e', b') := by
  have hm := hS.2.1
  obtain ⟨hun, hru, hu, hrl⟩ := id hC
  have e4 : ∀ k : Nat, (4 : Int32) * nI k = nI (4 * k) := fun k => by
    rw [show (4 : Int32) = nI 4 from rfl, pk_mul]
  intro j
  induction j with
  | zero =>
    intro k F F' v e b hk hF hF'
    obtain ⟨F1, rfl⟩ : ∃ F1, F = F1 + 1 := ⟨F - 1, by omega⟩
    obtain ⟨F2, rfl⟩ : ∃ F2, F' = F2 + 1 := ⟨F' - 1, by omega⟩
    obtain ⟨b0, a1, a2⟩ := allHold_both (N := N) (L := sl S) hS (by omega) (fun u hu => (hS.2.2.1 u hu).1)
    obtain ⟨box', c1, c2⟩ := y_lays (N := N) hS (by omega) hR e b
    have a1' := a1 nk nx ny nz nl hrl (fun u hu' => (hu u hu').1)
    have a2' := a2 all box' hR (fun u hu' => (c2.2 u hu').1)
    rw [show f_X7_digest_L86 N nu nr nk nx nl ny nz nh tl hc rf (F1 + 1) = f_X7_digest_C86 N nu nr nk nx nl ny nz nh tl hc rf (f_X7_digest_L86 N nu nr nk nx nl ny nz nh tl hc rf F1) from rfl, show f_X8_digest_L65 N ss rl all rf (F2 + 1) = f_X8_digest_C65 N ss rl all rf (f_X8_digest_L65 N ss rl all rf F2) from rfl]
    unfold f_X7_digest_C86 f_X8_digest_C65
    rw [y_rules hR, o_b1_some, e4, if_pos ((nI_leI (a := 4 * sm S) (b := 4 * k) (by omega) (by omega)).mpr (by omega)), c1, o_b2_some, a2', o_b1_some, hru, if_pos ((nI_leI (by omega) (by omega)).mpr (by omega)), a1', o_b1_some]
    cases b0
    · rw [if_pos bI_f, if_pos bI_f]
      exact ⟨_, _, _, rfl, rfl⟩
    · rw [if_neg bI_t, if_neg bI_t]
      exact ⟨_, _, _, rfl, rfl⟩
  | succ j ih =>
    intro k F F' v e b hk hF hF'
    obtain ⟨F1, rfl⟩ : ∃ F1, F = F1 + 1 := ⟨F - 1, by omega⟩
    obtain ⟨F2, rfl⟩ : ∃ F2, F' = F2 + 4 := ⟨F' - 4, by omega⟩
    have hkm : k < sm S := by omega
    obtain ⟨w1, w2, w3, w4⟩ := hrl k hkm
    obtain ⟨u1, u2, u3, u4⟩ := hR.2.2.2 k hkm
    have stp : ∀ (G i : Nat) (v : Int64), i < 4 * sm S → f_X8_digest_L65 N ss rl all rf (G + 1) e b v (nI i) = f_X8_digest_L65 N ss rl all rf G e b (31 * v + (all (14 + i)).toInt64) (nI (i + 1)) := fun G i v hi => by
      rw [show f_X8_digest_L65 N ss rl all rf (G + 1) = f_X8_digest_C65 N ss rl all rf (f_X8_digest_L65 N ss rl all rf G) from rfl]
      unfold f_X8_digest_C65
      have hn : ¬ nI (4 * sm S) ≤ nI i := fun q => by
        have := (nI_leI (by omega) (by omega)).mp q
        omega
      have e14 : (14 : Int32) + nI i = nI (14 + i) := nI_add 14 i
      rw [y_rules hR, o_b1_some, e4, if_neg hn, e14, o_inN (by omega) (by decide), nI_clamp (by omega), nI_1]
      rfl
    obtain ⟨r, e', b', i1, i2⟩ := ih (k + 1) F1 F2 (31 * (31 * (31 * (31 * v + (nI (sk S k)).toInt64) + (nI (sx S k)).toInt64) + (nI (sy S k)).toInt64) + (nI (sz S k)).toInt64) e b (by omega) (by omega) (by omega)
    refine ⟨r, e', b', ?_, ?_⟩
    · rw [← i1, show f_X7_digest_L86 N nu nr nk nx nl ny nz nh tl hc rf (F1 + 1) = f_X7_digest_C86 N nu nr nk nx nl ny nz nh tl hc rf (f_X7_digest_L86 N nu nr nk nx nl ny nz nh tl hc rf F1) from rfl]
      unfold f_X7_digest_C86
      have hn : ¬ nr ≤ nI k := fun q => by
        rw [hru] at q
        have := (nI_leI (by omega) (by omega)).mp q
        omega
      simp only [o_nm]
      rw [if_neg hn, o_inN (by omega) (by decide), o_inN (by omega) (by decide), o_inN (by omega) (by decide), o_inN (by omega) (by decide), nI_clamp (by omega), w1, w2, w3, w4, nI_1]
    · rw [← i2, stp (F2 + 3) (4 * k) v (by omega), stp (F2 + 2) (4 * k + 1) _ (by omega), stp (F2 + 1) (4 * k + 1 + 1) _ (by omega), stp F2 (4 * k + 1 + 1 + 1) _ (by omega), u1, show 14 + (4 * k + 1) = 15 + 4 * k by omega, u2, show 14 + (4 * k + 1 + 1) = 16 + 4 * k by omega, u3, show 14 + (4 * k + 1 + 1 + 1) = 17 + 4 * k by omega, u4, show 4 * k + 1 + 1 + 1 + 1 = 4 * (k + 1) by omega]
theorem dig33 {S : mS} {N : Nat} {nu nr tl hc ss rl : Int32} {nk nx nl ny nz nh rf all : Nat → Int32} (hS : mOK S) (hN : 600 ≤ N) (hC : mC S nu nr nl nh nk nx ny nz) (hR : mR S all) : ∀ (j k F F' : Nat) (v : Int64) (e : Int32) (b : Nat → Int32), k + j = sn S → j < F → 2 * j < F' → ∃ r e' b', f_X7_digest_L33 N nu nr nk nx nl ny nz nh tl hc rf F v (nI k) = some r ∧ f_X8_digest_L33 N ss rl all rf F' e b v (nI (1 + 2 * k)) = some (r, e', b') := by
  have hn6 := hS.1
  have hm6 := hS.2.1
  obtain ⟨hun, hru, hu, hrl⟩ := id hC
  have e2 : (2 : Int32) * nI (sn S) = nI (2 * sn S) := by
    rw [show (2 : Int32) = nI 2 from rfl, pk_mul]
  intro j
  induction j with
  | zero =>
    intro k F F' v e b hk hF hF'
    obtain ⟨F1, rfl⟩ : ∃ F1, F = F1 + 1 := ⟨F - 1, by omega⟩
    obtain ⟨F2, rfl⟩ : ∃ F2, F' = F2 + 1 := ⟨F' - 1, by omega⟩
    obtain ⟨r, e', b', i1, i2⟩ := dig86 (tl := tl) (hc := hc) (ss := ss) (rl := rl) (rf := rf) hS hN hC hR (sm S) 0 N N v e b (by omega) (by omega) (by omega)
    refine ⟨r, e', b', ?_, ?_⟩
    · rw [show f_X7_digest_L33 N nu nr nk nx nl ny nz nh tl hc rf (F1 + 1) = f_X7_digest_C33 N nu nr nk nx nl ny nz nh tl hc rf (f_X7_digest_L33 N nu nr nk nx nl ny nz nh tl hc rf F1) from rfl]
      unfold f_X7_digest_C33
      have hle : nu ≤ nI k := by
        rw [hun]
        exact (nI_leI (by omega) (by omega)).mpr (by omega)
      rw [if_pos hle]
      exact i1
    · rw [show f_X8_digest_L33 N ss rl all rf (F2 + 1) = f_X8_digest_C33 N ss rl all rf (f_X8_digest_L33 N ss rl all rf F2) from rfl]
      unfold f_X8_digest_C33
      rw [y_unknowns hR, o_b1_some, e2, if_pos ((nI_ltI (by omega) (by omega)).mpr (by omega))]
      exact i2
  | succ j ih =>
    intro k F F' v e b hk hF hF'
    obtain ⟨F1, rfl⟩ : ∃ F1, F = F1 + 1 := ⟨F - 1, by omega⟩
    obtain ⟨F2, rfl⟩ : ∃ F2, F' = F2 + 2 := ⟨F' - 2, by omega⟩
    have hkn : k < sn S := by omega
    obtain ⟨w1, w2⟩ := hu k hkn
    obtain ⟨u1, u2⟩ := hR.2.2.1 k hkn
    have stp : ∀ (G i : Nat) (v : Int64), i ≤ 2 * sn S → f_X8_digest_L33 N ss rl all rf (G + 1) e b v (nI i) = f_X8_digest_L33 N ss rl all rf G e b (31 * v + (all i).toInt64) (nI (i + 1)) := fun G i v hi => by
      rw [show f_X8_digest_L33 N ss rl all rf (G + 1) = f_X8_digest_C33 N ss rl all rf (f_X8_digest_L33 N ss rl all rf G) from rfl]
      unfold f_X8_digest_C33
      have hn : ¬ nI (2 * sn S) < nI i := fun q => by
        have := (nI_ltI (by omega) (by omega)).mp q
        omega
      rw [y_unknowns hR, o_b1_some, e2, if_neg hn, o_inN (by omega) (by decide), nI_clamp (by omega), nI_1]
      rfl
    obtain ⟨r, e', b', i1, i2⟩ := ih (k + 1) F1 F2 (31 * (31 * v + (Int32.ofInt (sl S k)).toInt64) + (Int32.ofInt (sh S k)).toInt64) e b (by omega) (by omega) (by omega)
    refine ⟨r, e', b', ?_, ?_⟩
    · rw [← i1, show f_X7_digest_L33 N nu nr nk nx nl ny nz nh tl hc rf (F1 + 1) = f_X7_digest_C33 N nu nr nk nx nl ny nz nh tl hc rf (f_X7_digest_L33 N nu nr nk nx nl ny nz nh tl hc rf F1) from rfl]
      unfold f_X7_digest_C33
      have hn : ¬ nu ≤ nI k := fun q => by
        rw [hun] at q
        have := (nI_leI (by omega) (by omega)).mp q
        omega
      simp only [o_nm]
      rw [if_neg hn, o_inN (by omega) (by decide), o_inN (by omega) (by decide), nI_clamp (by omega), w1, w2, nI_1]
    · rw [← i2, stp (F2 + 1) (1 + 2 * k) v (by omega), stp F2 (1 + 2 * k + 1) _ (by omega), u1, show 1 + 2 * k + 1 = 2 + 2 * k by omega, u2, show 2 + 2 * k + 1 = 1 + 2 * (k + 1) by omega]
theorem dig6 {S : mS} {N h : Nat} {nu nr tl hc ss rl : Int32} {nk nx nl ny nz nh rf all : Nat → Int32} (hS : mOK S) (hN : 600 ≤ N) (hC : mC S nu nr nl nh nk nx ny nz) (hR : mR S all) (hh : hc = nI h) (hs : ss = nI h) (ht : rl = tl) : ∀ (j k F : Nat) (v : Int64) (e : Int32) (b : Nat → Int32), k + j = 7 → j < F → ∃ r e' b', f_X7_digest_L6 N nu nr nk nx nl ny nz nh tl hc rf F v (nI k) = some r ∧ f_X8_digest_L6 N ss rl all rf F e b v (nI k) = some (r, e', b') := by
  have hn6 := hS.1
  intro j
  induction j with
  | zero =>
    intro k F v e b hk hF
    obtain ⟨F1, rfl⟩ : ∃ F1, F = F1 + 1 := ⟨F - 1, by omega⟩
    obtain ⟨r, e', b', i1, i2⟩ := dig33 (tl := tl) (hc := hc) (ss := ss) (rl := rl) (rf := rf) hS hN hC hR (sn S) 0 N N v e b (by omega) (by omega) (by omega)
    refine ⟨r, e', b', ?_, ?_⟩
    · rw [show f_X7_digest_L6 N nu nr nk nx nl ny nz nh tl hc rf (F1 + 1) = f_X7_digest_C6 N nu nr nk nx nl ny nz nh tl hc rf (f_X7_digest_L6 N nu nr nk nx nl ny nz nh tl hc rf F1) from rfl, show k = 7 by omega]
      unfold f_X7_digest_C6
      rw [if_pos (show (6 : Int32) < nI 7 by decide)]
      exact i1
    · rw [show f_X8_digest_L6 N ss rl all rf (F1 + 1) = f_X8_digest_C6 N ss rl all rf (f_X8_digest_L6 N ss rl all rf F1) from rfl, show k = 7 by omega]
      unfold f_X8_digest_C6
      rw [if_pos (show (7 : Int32) ≤ nI 7 by decide)]
      exact i2
  | succ j ih =>
    intro k F v e b hk hF
    obtain ⟨F1, rfl⟩ : ∃ F1, F = F1 + 1 := ⟨F - 1, by omega⟩
    obtain ⟨w, w1, w2⟩ := tally_both (rf := rf) hC.1 hC.2.1 hR hh hs ht (show k ≤ 6 by omega)
    obtain ⟨r, e', b', i1, i2⟩ := ih (k + 1) F1 (31 * v + w.toInt64) e b (by omega) (by omega)
    refine ⟨r, e', b', ?_, ?_⟩
    · rw [← i1, show f_X7_digest_L6 N nu nr nk nx nl ny nz nh tl hc rf (F1 + 1) = f_X7_digest_C6 N nu nr nk nx nl ny nz nh tl hc rf (f_X7_digest_L6 N nu nr nk nx nl ny nz nh tl hc rf F1) from rfl]
      unfold f_X7_digest_C6
      have hn : ¬ (6 : Int32) < nI k := fun q => by
        have := (nI_ltI (a := 6) (b := k) (by decide) (by omega)).mp q
        omega
      rw [if_neg hn, w1, o_b1_some, nI_1]
      rfl
    · rw [← i2, show f_X8_digest_L6 N ss rl all rf (F1 + 1) = f_X8_digest_C6 N ss rl all rf (f_X8_digest_L6 N ss rl all rf F1) from rfl]
      unfold f_X8_digest_C6
      have hn : ¬ (7 : Int32) ≤ nI k := fun q => by
        have := (nI_leI (a := 7) (b := k) (by decide) (by omega)).mp q
        omega
      rw [if_neg hn, w2, o_b1_some, nI_1]
      rfl
section calls
variable {N : Nat} {nu nr : Int32} {nl nh nk nx ny nz : Nat → Int32} {hc hn : Int32} {hr : Nat → g_MV} {sv st sf sb : Int32} {sp : Nat → Int32} {tl : Int32} {tb rf : Nat → Int32} {all past : Nat → Int32} {ss : Int32} {rr rt : Nat → Int32} {rl : Int32}
theorem L_digest (hN : 600 ≤ N) (hRel : Rel N nu nr nl nh nk nx ny nz hc hn hr sv st sf sb sp tl tb rf all past ss rr rt rl) (re : Int32) (rb : Nat → Int32) : ∃ r o_re o_rb, f_X7_digest N nu nr nk nx nl ny nz nh tl hc rf = some r ∧ f_X8_digest N ss rl all rr re rb = some (r, o_re, o_rb) := by
  obtain ⟨S, h, Hs, tn, hS, hC, hR, hH, hcc, hrr, hs, hrf, htn, htl, hrl, hrt, htb⟩ := hRel
  subst hrf
  exact dig6 hS hN hC hR hcc.1 hrr.1 (hrl.trans htl.symm) 7 0 N 2377 re rb (by omega) (by omega)
end calls
