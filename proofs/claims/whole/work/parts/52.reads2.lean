/-! ===== the orders of a text, one after another, by both ===== -/
section reads
variable {N : Nat} {nu nr : Int32} {nl nh nk nx ny nz : Nat → Int32} {hc hn : Int32} {hr : Nat → g_MV} {sv st sf sb : Int32} {sp : Nat → Int32} {tl : Int32} {tb rf : Nat → Int32} {all past : Nat → Int32} {ss : Int32} {rr rt : Nat → Int32} {rl : Int32}
theorem reads_loop {S0 : mS} {h : Nat} {Hs : Nat → mS} {tn n : Nat} {L M before : Nat → Int32} {at0 : Int32} (hN : 600 ≤ N) (hS0 : mOK S0) (hC0 : mC S0 nu nr nl nh nk nx ny nz) (hH : hOK h Hs) (hcc : hsC h Hs hc hn hr) (hrr : hsR h Hs ss past) (hB : mR S0 before) (htb : ∀ i, i < tn → 0 ≤ (tb i).toInt ∧ (tb i).toInt ≤ 127) (hn60 : n ≤ 60) :
    ∀ (j i a b F F' : Nat) (S : mS) (tu tr : Int32) (ul uh uk ux uy uz : Nat → Int32) (cc ce : Int32) (cl ch : Nat → Int32) (e cu : Int32) (al box numbers : Nat → Int32), i + j = n → j < F → j < F' → chn N tn tb L M j i a → f_X8_here N (nI tn) tb (nI b) = some (pkv tn tb a, nI a) → mOK S → mC S tu tr ul uh uk ux uy uz → mR S al →
    ∃ (r : Int32) (o_tu o_tr o_nu o_nr : Int32) (o_nl o_ul o_nh o_uh o_nk o_uk o_nx o_ux o_ny o_uy o_nz o_uz : Nat → Int32) (o_hc o_hn : Int32) (o_hr : Nat → g_MV) (o_sb o_cc o_ce : Int32) (o_cl o_ch : Nat → Int32) (o_ss o_e o_cu o_at o_st : Int32) (o_all o_box o_numbers o_before o_past : Nat → Int32),
      f_X7_reads_L34 N (nI tn) tb F at0 (nI n) L M tu tr nu nr nl ul nh uh nk uk nx ux ny uy nz uz hc hn hr sb cc ce cl ch (nI i) = some (r, at0, nI n, L, M, o_tu, o_tr, o_nu, o_nr, o_nl, o_ul, o_nh, o_uh, o_nk, o_uk, o_nx, o_ux, o_ny, o_uy, o_nz, o_uz, o_hc, o_hn, o_hr, o_sb, o_cc, o_ce, o_cl, o_ch) ∧
      f_X8_reads_L82 N (nI tn) tb F' ss e cu (nI b) 0 al box numbers before past (nI i) = some (r, o_ss, o_e, o_cu, o_at, o_st, o_all, o_box, o_numbers, o_before, o_past) ∧
      ∃ (S' : mS) (h' : Nat) (Hs' : Nat → mS), mOK S' ∧ mC S' o_nu o_nr o_nl o_nh o_nk o_nx o_ny o_nz ∧ mR S' o_all ∧ hOK h' Hs' ∧ hsC h' Hs' o_hc o_hn o_hr ∧ hsR h' Hs' o_ss o_past ∧ (o_sb = 0 ∨ (o_sb = sb ∧ S' = S0)) := by
  intro j
  induction j with
  | zero =>
    intro i a b F F' S tu tr ul uh uk ux uy uz cc ce cl ch e cu al box numbers hij hF hF' hch hhere hS hC hR
    obtain ⟨G, rfl⟩ : ∃ G, F = G + 1 := ⟨F - 1, by omega⟩
    obtain ⟨G', rfl⟩ : ∃ G', F' = G' + 1 := ⟨F' - 1, by omega⟩
    have hat : a = tn := hch
    obtain ⟨c', n', r', hk, hkC⟩ := z_keep (sb := sb) hS0 hC0 hH hcc
    obtain ⟨al1, bf1, w1, w2, w3⟩ := swaps_both (N := N) (by omega) al before
    have hR1 : mR S0 al1 := mR_congr hS0 (fun x hx => (w2 x hx).symm) hB
    obtain ⟨s', p', hk2, hkR⟩ := y_keep (N := N) (by omega) hS0 hR1 hH hrr
    obtain ⟨al2, bf2, w4, w5, w6⟩ := swaps_both (N := N) (by omega) al1 bf1
    have hR2 : mR S al2 := mR_congr hS (fun x hx => by rw [w5 x hx, w3 x hx]) hR
    have e1 : f_X7_reads_L34 N (nI tn) tb (G + 1) at0 (nI n) L M tu tr nu nr nl ul nh uh nk uk nx ux ny uy nz uz hc hn hr sb cc ce cl ch (nI i) = some (nI n, at0, nI n, L, M, tu, tr, tu, tr, va_cpy ul nl 0 0 6, ul, va_cpy uh nh 0 0 6, uh, va_cpy uk nk 0 0 6, uk, va_cpy ux nx 0 0 6, ux, va_cpy uy ny 0 0 6, uy, va_cpy uz nz 0 0 6, uz, c', n', r', 0, cc, ce, cl, ch) := by
      show f_X7_reads_C34 N (nI tn) tb (f_X7_reads_L34 N (nI tn) tb G) at0 (nI n) L M tu tr nu nr nl ul nh uh nk uk nx ux ny uy nz uz hc hn hr sb cc ce cl ch (nI i) = _
      unfold f_X7_reads_C34
      rw [if_pos ((nI_leI (by omega) (by omega)).mpr (show n ≤ i by omega)), hk, o_b4_some, z_copy, o_b8_some]
    have e2 : f_X8_reads_L82 N (nI tn) tb (G' + 1) ss e cu (nI b) 0 al box numbers before past (nI i) = some (nI i, s', e, cu, nI a, 0, al2, box, numbers, bf2, p') := by
      show f_X8_reads_C82 N (nI tn) tb (f_X8_reads_L82 N (nI tn) tb G') ss e cu (nI b) 0 al box numbers before past (nI i) = _
      unfold f_X8_reads_C82
      rw [hhere, o_b2_some, if_pos (pkv_out (by omega)), w1, o_b2_some, hk2, o_b2_some, w4, o_b2_some]
    rw [show i = n by omega] at e2
    rw [show i = n by omega] at e1 ⊢
    exact ⟨_, _, _, _, _, _, _, _, _, _, _, _, _, _, _, _, _, _, _, _, _, _, _, _, _, _, _, _, _, _, _, _, _, _, _, e1, e2, S, kh h, kH h Hs S0, hS, mC_copy hS hC, hR2, kOK hH hS0, hkC, hkR, Or.inl rfl⟩
  | succ j ih =>
    intro i a b F F' S tu tr ul uh uk ux uy uz cc ce cl ch e cu al box numbers hij hF hF' hch hhere hS hC hR
    obtain ⟨G, rfl⟩ : ∃ G, F = G + 1 := ⟨F - 1, by omega⟩
    obtain ⟨G', rfl⟩ : ∃ G', F' = G' + 1 := ⟨F' - 1, by omega⟩
    obtain ⟨hlt, a1, a2, ⟨hlet, ha1, hord⟩, hh1, ha2, hch2⟩ := hch
    obtain ⟨numbers', nv, nd⟩ := hord numbers
    have hni : ¬ nI n ≤ nI i := fun q => by
      have := (nI_leI (a := n) (b := i) (by omega) (by omega)).mp q
      omega
    have x1 : f_X7_reads_L34 N (nI tn) tb (G + 1) at0 (nI n) L M tu tr nu nr nl ul nh uh nk uk nx ux ny uy nz uz hc hn hr sb cc ce cl ch (nI i) = f_X7_reads_C34 N (nI tn) tb (f_X7_reads_L34 N (nI tn) tb G) at0 (nI n) L M tu tr nu nr nl ul nh uh nk uk nx ux ny uy nz uz hc hn hr sb cc ce cl ch (nI i) := rfl
    have x2 : f_X8_reads_L82 N (nI tn) tb (G' + 1) ss e cu (nI b) 0 al box numbers before past (nI i) = f_X8_reads_C82 N (nI tn) tb (f_X8_reads_L82 N (nI tn) tb G') ss e cu (nI b) 0 al box numbers before past (nI i) := rfl
    rw [x1, x2]
    unfold f_X7_reads_C34 f_X8_reads_C82 f_X7_reads_B100
    rw [if_neg hni, o_inN (by omega) (by decide), o_inN (by omega) (by decide), nI_clamp (by omega), hhere, o_b2_some, if_neg (pkv_m1 htb hlt), nd e cu 0 al box, nI_1]
    by_cases g : L i = 99
    · rw [if_pos g, g]
      obtain ⟨rr0, S', hS', cC, cR⟩ := cut_now (N := N) hS (by omega)
      obtain ⟨c1, e1, l1, cl1, h1, ch1, b1, b2⟩ := cC tu tr ul uh uk ux uy uz hC cc ce cl ch
      obtain ⟨e2, c2, all2, bx2, b3, b4⟩ := cR al hR e cu box
      have hd : f_X8_does_ N numbers' e cu 0 al box 99 = some (e2, c2, 0, all2, bx2) := by
        unfold f_X8_does_
        rw [if_neg (by decide), if_neg (by decide), if_neg (by decide), b3, o_b5_some]
      rw [b1, o_b7_some, hd, o_b5_some, o_b8_some, if_pos rfl]
      exact ih (i + 1) a2 a1 G G' S' tu tr l1 h1 uk ux uy uz c1 e1 cl1 ch1 e2 c2 all2 bx2 numbers' (by omega) (by omega) (by omega) hch2 hh1 hS' b2 b4
    · rw [if_neg g, show nI i * 4 = nI (4 * i) by rw [show (4 : Int32) = nI 4 from rfl, pk_mul, Nat.mul_comm]]
      have hc3 : L i = 117 ∨ L i = 107 ∨ L i = 120 := by
        rcases hlet with q | q | q | q
        · exact Or.inl q
        · exact Or.inr (Or.inl q)
        · exact absurd q g
        · exact Or.inr (Or.inr q)
      obtain ⟨ok, un', ru', kd', x', y', z', l', h', all', o1, o2, o3⟩ := obey_both (N := N) (number := M) (numbers := numbers') hS (by omega) hC hR hc3 (show i < 60 by omega) nv e cu box
      rw [o1, o_b9_some, o2, o_b5_some, o_b8_some]
      cases ok
      · obtain ⟨al1, bf1, w1, w2, w3⟩ := swaps_both (N := N) (by omega) all' before
        rw [if_pos bI_f, if_neg (by decide), w1, o_b2_some]
        exact ⟨_, _, _, _, _, _, _, _, _, _, _, _, _, _, _, _, _, _, _, _, _, _, _, _, _, _, _, _, _, _, _, _, _, _, _, rfl, rfl, S0, h, Hs, hS0, hC0, mR_congr hS0 (fun x hx => (w2 x hx).symm) hB, hH, hcc, hrr, Or.inr ⟨rfl, rfl⟩⟩
      · obtain ⟨S', q1, q2, q3⟩ := o3 rfl
        rw [if_neg bI_t, if_pos (by decide)]
        exact ih (i + 1) a2 a1 G G' S' un' ru' l' h' kd' x' y' z' cc ce cl ch e cu all' box numbers' (by omega) (by omega) (by omega) hch2 hh1 q1 q2 q3
theorem L_reads (hN : 600 ≤ N) (hRel : Rel N nu nr nl nh nk nx ny nz hc hn hr sv st sf sb sp tl tb rf all past ss rr rt rl) (ta to : Int32) (tt tm : Nat → Int32) (tu tr : Int32) (ul uh uk ux uy uz : Nat → Int32) (cc ce : Int32) (cl ch : Nat → Int32) (re rc ra rs : Int32) (rb rm rw_ : Nat → Int32) :
    ∃ (r : Int32) (o_ta o_to : Int32) (o_tt o_tm : Nat → Int32) (o_tu o_tr o_nu o_nr : Int32) (o_nl o_ul o_nh o_uh o_nk o_uk o_nx o_ux o_ny o_uy o_nz o_uz : Nat → Int32) (o_hc o_hn : Int32) (o_hr : Nat → g_MV) (o_sb o_cc o_ce : Int32) (o_cl o_ch : Nat → Int32) (o_ss o_re o_rc o_ra o_rs : Int32) (o_all o_rb o_rm o_rw o_past : Nat → Int32),
      f_X7_reads N tl tb ta to tt tm tu tr nu nr nl ul nh uh nk uk nx ux ny uy nz uz hc hn hr sb cc ce cl ch = some (r, o_ta, o_to, o_tt, o_tm, o_tu, o_tr, o_nu, o_nr, o_nl, o_ul, o_nh, o_uh, o_nk, o_uk, o_nx, o_ux, o_ny, o_uy, o_nz, o_uz, o_hc, o_hn, o_hr, o_sb, o_cc, o_ce, o_cl, o_ch) ∧
      f_X8_reads N rl rt ss re rc ra rs all rb rm rw_ past = some (r, o_ss, o_re, o_rc, o_ra, o_rs, o_all, o_rb, o_rm, o_rw, o_past) ∧
      Rel N o_nu o_nr o_nl o_nh o_nk o_nx o_ny o_nz o_hc o_hn o_hr sv st sf o_sb sp tl tb rf o_all o_past o_ss rr rt rl := by
  obtain ⟨S, h, Hs, tn, hS, hC, hR, hH, hcc, hrr, hs, hrf, htn, htl, hrl, hrt, htb⟩ := hRel
  subst hrt
  obtain ⟨a0, s1, s2, s3, s4, s5⟩ := skip_both (N := N) (tb := rt) htn (by omega) (Nat.zero_le tn)
  obtain ⟨ok, n, a1, p1, p2, p3, p4⟩ := pcl_all (N := N) htn (by omega) htb tn 0 a0 N N (by omega) (by omega) (by omega) s2 (by omega) (Or.inr rfl) s5
  obtain ⟨L, M, c1, c2, c3, c4⟩ := p3 tt tm
  obtain ⟨numbers', d1⟩ := p4 rm rw_ past ss re rc rs all rb
  have h0 : f_X8_readsOrder N (nI tn) rt re rc 0 rs all rb rm 0 = f_X8_readsOrder N (nI tn) rt re rc (nI a0) rs all rb rm 0 := by
    unfold f_X8_readsOrder
    rw [show f_X8_here N (nI tn) rt 0 = some (pkv tn rt a0, nI a0) from s4, s5]
  have hp : f_X6_parse N tl rt ta to tt tm = some (bI ok, nI a1, nI (0 + n), L, M) := by
    unfold f_X6_parse
    rw [htl, show f_X6_skipBlanks N (nI tn) rt 0 = some (nI a0) from s3, o_b1_some]
    exact c1
  unfold f_X7_reads f_X8_reads
  rw [hp, o_b5_some, hrl, h0, d1, Nat.zero_add]
  cases ok
  · rw [if_pos bI_f, if_neg (by decide)]
    exact ⟨_, _, _, _, _, _, _, _, _, _, _, _, _, _, _, _, _, _, _, _, _, _, _, _, _, _, _, _, _, _, _, _, _, _, _, _, _, _, _, rfl, rfl, S, h, Hs, tn, hS, hC, hR, hH, hcc, hrr, hs, hrf, htn, htl, rfl, rfl, htb⟩
  · obtain ⟨before', w1, -, w3⟩ := copy46 (N := N) (tn := tn) (tb := rt) (states := ss) (e := re) (cu := rc) (at' := nI a1) (st := rs) (all := all) (box := rb) (numbers := numbers') (past := past) 38 0 N rw_ (by omega) (by omega)
    have hB : mR S before' := mR_congr hS (fun x hx => (w3 x (by omega) hx).symm) hR
    rw [if_neg bI_t, if_pos rfl, z_copy, o_b8_some, htl, show f_X8_reads_L46 N (nI tn) rt N ss re rc (nI a1) rs all rb numbers' rw_ past 0 = _ from w1]
    obtain ⟨r, o_tu, o_tr, o_nu, o_nr, o_nl, o_ul, o_nh, o_uh, o_nk, o_uk, o_nx, o_ux, o_ny, o_uy, o_nz, o_uz, o_hc, o_hn, o_hr, o_sb, o_cc, o_ce, o_cl, o_ch, o_ss, o_e, o_cu, o_at, o_st, o_all, o_box, o_numbers, o_before, o_past, q1, q2, S', h', Hs', t1, t2, t3, t4, t5, t6, t7⟩ := reads_loop (N := N) (at0 := nI a1) (sb := sb) hN hS hC hH hcc hrr hB htb (show n ≤ 60 by omega) n 0 a0 0 N N S nu nr (va_cpy nl ul 0 0 6) (va_cpy nh uh 0 0 6) (va_cpy nk uk 0 0 6) (va_cpy nx ux 0 0 6) (va_cpy ny uy 0 0 6) (va_cpy nz uz 0 0 6) cc ce cl ch re rc all rb numbers' (by omega) (by omega) (by omega) (c4 rfl) s4 hS (mC_copy hS hC) hR
    refine ⟨_, _, _, _, _, _, _, _, _, _, _, _, _, _, _, _, _, _, _, _, _, _, _, _, _, _, _, _, _, _, _, _, _, _, _, _, _, _, _, q1, q2, S', h', Hs', tn, t1, t2, t3, t4, t5, t6, ?_, hrf, htn, rfl, rfl, rfl, htb⟩
    rcases t7 with q | ⟨q, q'⟩
    · exact Or.inl q
    · rw [q, q']
      exact hs
end reads
