/-! ===== the law's loop ===== -/
theorem lc_832 {p : Program} {l : Launch} {e : Env} {s : State} {m : MethodId} {below : List Frame} {meth : Method} {c : Code} {D : va_G} {cI cM : ClassId} {b h0 h1 L i : Nat} {ax am : Nat → Nat} {xs : Nat → Int32} (hL : L ≤ 2560) (C0 : lw_At p s m meth c b L xs) (hi : i + 5 ≤ L) (kk : LIp p l e s m below meth c D cI cM b h0 h1 ax am 18 (i + 5)) : LIp p l e s m below meth c D cI cM b h0 h1 ax am 832 i := by
  obtain ⟨hx, hb, hr, hml, hown, hts0, hX, hbl, hlocks, hgv⟩ := C0
  intro nu nr nl nh nk nx ny nz tu tr ul uh uk ux uy uz hc hn hr cc ce cl ch sv st sf sb sp lo hi bc be bl bh tl ta to tb tt tm rf all past ss rr rb re rc rw_ rm tk fd rt rl ra rn rs bf H locs ls d0 hd0 hRel hP hD hS hl
  refine lv_iinc (v := nI i + 5) (lv' := [(3, .int (nI i + 5)), (0, .ref b), (1, .ref h0), (2, .ref h1)]) hx hb dL_law_832 hl (k := 3) rfl rfl (by decide) rfl (fun ls hl => ?_)
  refine lv_goto (tgt := 18) hx hb dL_law_835 (by decide) ?_
  rw [show nI i + 5 = nI (i + 5) from nI_add i 5] at hl
  exact kk nu nr nl nh nk nx ny nz tu tr ul uh uk ux uy uz hc hn hr cc ce cl ch sv st sf sb sp lo hi bc be bl bh tl ta to tb tt tm rf all past ss rr rb re rc rw_ rm tk fd rt rl ra rn rs bf H locs ls d0 hd0 hRel hP hD hS (lv_sub hl [1, 2, 3, 0] rfl)
theorem lx_gt {i L : Nat} (hL : L ≤ 2560) (hi : i ≤ L + 5) : (Int32.ofNat L - 5 < nI i) ↔ ¬ i + 5 ≤ L := by
  rw [Int32.lt_iff_toInt_lt, show (Int32.ofNat L - 5 : Int32) = nI L - nI 5 from rfl, pk_sub_toInt (by omega) (by decide), nI_toInt (by omega)]
  omega
theorem lc_exit {p : Program} {l : Launch} {e : Env} {s : State} {m : MethodId} {below : List Frame} {meth : Method} {c : Code} {D : va_G} {cI cM : ClassId} {b h0 h1 L i : Nat} {ax am : Nat → Nat} {xs : Nat → Int32} (hL : L ≤ 2560) (C0 : lw_At p s m meth c b L xs) (hi : ¬ i + 5 ≤ L) (hi2 : i ≤ L + 5) : LIp p l e s m below meth c D cI cM b h0 h1 ax am 18 i := by
  obtain ⟨hx, hb, hr, hml, hown, hts0, hX, hbl, hlocks, hgv⟩ := C0
  have hbA : ¬ (fun q : Nat => s.heap.size ≤ q) b := Nat.not_le.mpr hbl
  have hgt := (lx_gt hL hi2).mpr hi
  intro nu nr nl nh nk nx ny nz tu tr ul uh uk ux uy uz hc hn hring cc ce cl ch sv st sf sb sp lo hi bc be bl bh tl ta to tb tt tm rf all past ss rr rb re rc rw_ rm tk fd rt rl ra rn rs bf H locs ls d0 hd0 hRel hP hD hS hl
  refine lv_iload_n hx hb dL_law_18 rfl (lv_at hl 3 rfl) ?_
  refine lv_aload_n hx hb dL_law_19 rfl (lv_at hl 0 rfl) ?_
  refine va_slen (s := s.setDrawn d0) hx hb hX hbl hbA hS dL_law_20 ?_
  refine lv_iconst (v := 5) hx hb dL_law_21 (by decide) ?_
  refine lv_isub hx hb dL_law_22 ?_
  refine lv_icmp_gt (tgt := 838) hx hb dL_law_23 (by decide) (fun _ => ?_) (fun q => absurd hgt q)
  refine lv_iconst (v := 1) hx hb dL_law_838 (by decide) ?_
  refine va_forget (fun q hq => hS.2.2 q hq) ?_
  refine W.widen (k := 600000) (n := 7302250) (Nat.le_of_ble_eq_true rfl) (Nat.le_of_ble_eq_true rfl) ?_
  exact lw_ret hd0 hx hb hr hlocks dL_law_839
theorem lc_go {p : Program} {l : Launch} {e : Env} {s : State} {m : MethodId} {below : List Frame} {meth : Method} {c : Code} {D : va_G} {cI cM : ClassId} {b h0 h1 L i : Nat} {ax am : Nat → Nat} {xs : Nat → Int32} (hL : L ≤ 2560) (C0 : lw_At p s m meth c b L xs) (hi : i + 5 ≤ L) (k0 : LIp p l e s m below meth c D cI cM b h0 h1 ax am 140 i) (k1 : LIp p l e s m below meth c D cI cM b h0 h1 ax am 173 i) (k2 : LIp p l e s m below meth c D cI cM b h0 h1 ax am 216 i) (k3 : LIp p l e s m below meth c D cI cM b h0 h1 ax am 269 i) (k4 : LIp p l e s m below meth c D cI cM b h0 h1 ax am 292 i) (k5 : LIp p l e s m below meth c D cI cM b h0 h1 ax am 305 i) (k6 : LIp p l e s m below meth c D cI cM b h0 h1 ax am 338 i) (k7 : LIp p l e s m below meth c D cI cM b h0 h1 ax am 362 i) (k8 : LIp p l e s m below meth c D cI cM b h0 h1 ax am 395 i) (k9 : LIp p l e s m below meth c D cI cM b h0 h1 ax am 438 i) (k10 : LIp p l e s m below meth c D cI cM b h0 h1 ax am 491 i) (k11 : LIp p l e s m below meth c D cI cM b h0 h1 ax am 524 i) (k12 : LIp p l e s m below meth c D cI cM b h0 h1 ax am 557 i) (k13 : LIp p l e s m below meth c D cI cM b h0 h1 ax am 580 i) (k14 : LIp p l e s m below meth c D cI cM b h0 h1 ax am 633 i) (k15 : LIp p l e s m below meth c D cI cM b h0 h1 ax am 657 i) (k16 : LIp p l e s m below meth c D cI cM b h0 h1 ax am 700 i) (k17 : LIp p l e s m below meth c D cI cM b h0 h1 ax am 733 i) (k18 : LIp p l e s m below meth c D cI cM b h0 h1 ax am 756 i) (k19 : LIp p l e s m below meth c D cI cM b h0 h1 ax am 769 i) (k20 : LIp p l e s m below meth c D cI cM b h0 h1 ax am 782 i) (k21 : LIp p l e s m below meth c D cI cM b h0 h1 ax am 795 i) (k22 : LIp p l e s m below meth c D cI cM b h0 h1 ax am 818 i) (k832 : LIp p l e s m below meth c D cI cM b h0 h1 ax am 832 i) : LIp p l e s m below meth c D cI cM b h0 h1 ax am 18 i := by
  obtain ⟨hx, hb, hr, hml, hown, hts0, hX, hbl, hlocks, hgv⟩ := C0
  have hbA : ¬ (fun q : Nat => s.heap.size ≤ q) b := Nat.not_le.mpr hbl
  have h_0 : vp_in (nI i) L := vp_in_nI (by omega) (by omega)
  have hng : ¬ (Int32.ofNat L - 5 < nI i) := fun q => (lx_gt (i := i) hL (by omega)).mp q hi
  intro nu nr nl nh nk nx ny nz tu tr ul uh uk ux uy uz hc hn hring cc ce cl ch sv st sf sb sp lo hi bc be bl bh tl ta to tb tt tm rf all past ss rr rb re rc rw_ rm tk fd rt rl ra rn rs bf H locs ls d0 hd0 hRel hP hD hS hl
  refine lv_iload_n hx hb dL_law_18 rfl (lv_at hl 3 rfl) ?_
  refine lv_aload_n hx hb dL_law_19 rfl (lv_at hl 0 rfl) ?_
  refine va_slen (s := s.setDrawn d0) hx hb hX hbl hbA hS dL_law_20 ?_
  refine lv_iconst (v := 5) hx hb dL_law_21 (by decide) ?_
  refine lv_isub hx hb dL_law_22 ?_
  refine lv_icmp_gt (tgt := 838) hx hb dL_law_23 (by decide) (fun q => absurd q hng) (fun _ => ?_)
  refine lv_aload_n hx hb dL_law_26 rfl (lv_at hl 0 rfl) ?_
  refine lv_iload_n hx hb dL_law_27 rfl (lv_at hl 3 rfl) ?_
  refine va_sld (s := s.setDrawn d0) hx hb hX hbl hbA hS h_0 dL_law_28 ?_
  refine lv_bipush (v := 31) hx hb dL_law_29 (by decide) ?_
  refine lv_iand hx hb dL_law_31 ?_
  obtain ⟨j, hj, ej⟩ := pk_andE (xs (nI i).toNatClampNeg) (m := 31) 5 (by decide)
  rw [ej]
  by_cases g22 : j ≤ 22
  · rcases (show j = 0 ∨ j = 1 ∨ j = 2 ∨ j = 3 ∨ j = 4 ∨ j = 5 ∨ j = 6 ∨ j = 7 ∨ j = 8 ∨ j = 9 ∨ j = 10 ∨ j = 11 ∨ j = 12 ∨ j = 13 ∨ j = 14 ∨ j = 15 ∨ j = 16 ∨ j = 17 ∨ j = 18 ∨ j = 19 ∨ j = 20 ∨ j = 21 ∨ j = 22 by omega) with rfl | rfl | rfl | rfl | rfl | rfl | rfl | rfl | rfl | rfl | rfl | rfl | rfl | rfl | rfl | rfl | rfl | rfl | rfl | rfl | rfl | rfl | rfl
    · exact lv_tableIn (off := 108) (tgt := 140) hx hb dL_law_32 (by decide) (by decide) rfl (by decide) (k0 nu nr nl nh nk nx ny nz tu tr ul uh uk ux uy uz hc hn hring cc ce cl ch sv st sf sb sp lo hi bc be bl bh tl ta to tb tt tm rf all past ss rr rb re rc rw_ rm tk fd rt rl ra rn rs bf H locs ls d0 hd0 hRel hP hD hS hl)
    · exact lv_tableIn (off := 141) (tgt := 173) hx hb dL_law_32 (by decide) (by decide) rfl (by decide) (k1 nu nr nl nh nk nx ny nz tu tr ul uh uk ux uy uz hc hn hring cc ce cl ch sv st sf sb sp lo hi bc be bl bh tl ta to tb tt tm rf all past ss rr rb re rc rw_ rm tk fd rt rl ra rn rs bf H locs ls d0 hd0 hRel hP hD hS hl)
    · exact lv_tableIn (off := 184) (tgt := 216) hx hb dL_law_32 (by decide) (by decide) rfl (by decide) (k2 nu nr nl nh nk nx ny nz tu tr ul uh uk ux uy uz hc hn hring cc ce cl ch sv st sf sb sp lo hi bc be bl bh tl ta to tb tt tm rf all past ss rr rb re rc rw_ rm tk fd rt rl ra rn rs bf H locs ls d0 hd0 hRel hP hD hS hl)
    · exact lv_tableIn (off := 237) (tgt := 269) hx hb dL_law_32 (by decide) (by decide) rfl (by decide) (k3 nu nr nl nh nk nx ny nz tu tr ul uh uk ux uy uz hc hn hring cc ce cl ch sv st sf sb sp lo hi bc be bl bh tl ta to tb tt tm rf all past ss rr rb re rc rw_ rm tk fd rt rl ra rn rs bf H locs ls d0 hd0 hRel hP hD hS hl)
    · exact lv_tableIn (off := 260) (tgt := 292) hx hb dL_law_32 (by decide) (by decide) rfl (by decide) (k4 nu nr nl nh nk nx ny nz tu tr ul uh uk ux uy uz hc hn hring cc ce cl ch sv st sf sb sp lo hi bc be bl bh tl ta to tb tt tm rf all past ss rr rb re rc rw_ rm tk fd rt rl ra rn rs bf H locs ls d0 hd0 hRel hP hD hS hl)
    · exact lv_tableIn (off := 273) (tgt := 305) hx hb dL_law_32 (by decide) (by decide) rfl (by decide) (k5 nu nr nl nh nk nx ny nz tu tr ul uh uk ux uy uz hc hn hring cc ce cl ch sv st sf sb sp lo hi bc be bl bh tl ta to tb tt tm rf all past ss rr rb re rc rw_ rm tk fd rt rl ra rn rs bf H locs ls d0 hd0 hRel hP hD hS hl)
    · exact lv_tableIn (off := 306) (tgt := 338) hx hb dL_law_32 (by decide) (by decide) rfl (by decide) (k6 nu nr nl nh nk nx ny nz tu tr ul uh uk ux uy uz hc hn hring cc ce cl ch sv st sf sb sp lo hi bc be bl bh tl ta to tb tt tm rf all past ss rr rb re rc rw_ rm tk fd rt rl ra rn rs bf H locs ls d0 hd0 hRel hP hD hS hl)
    · exact lv_tableIn (off := 330) (tgt := 362) hx hb dL_law_32 (by decide) (by decide) rfl (by decide) (k7 nu nr nl nh nk nx ny nz tu tr ul uh uk ux uy uz hc hn hring cc ce cl ch sv st sf sb sp lo hi bc be bl bh tl ta to tb tt tm rf all past ss rr rb re rc rw_ rm tk fd rt rl ra rn rs bf H locs ls d0 hd0 hRel hP hD hS hl)
    · exact lv_tableIn (off := 363) (tgt := 395) hx hb dL_law_32 (by decide) (by decide) rfl (by decide) (k8 nu nr nl nh nk nx ny nz tu tr ul uh uk ux uy uz hc hn hring cc ce cl ch sv st sf sb sp lo hi bc be bl bh tl ta to tb tt tm rf all past ss rr rb re rc rw_ rm tk fd rt rl ra rn rs bf H locs ls d0 hd0 hRel hP hD hS hl)
    · exact lv_tableIn (off := 406) (tgt := 438) hx hb dL_law_32 (by decide) (by decide) rfl (by decide) (k9 nu nr nl nh nk nx ny nz tu tr ul uh uk ux uy uz hc hn hring cc ce cl ch sv st sf sb sp lo hi bc be bl bh tl ta to tb tt tm rf all past ss rr rb re rc rw_ rm tk fd rt rl ra rn rs bf H locs ls d0 hd0 hRel hP hD hS hl)
    · exact lv_tableIn (off := 459) (tgt := 491) hx hb dL_law_32 (by decide) (by decide) rfl (by decide) (k10 nu nr nl nh nk nx ny nz tu tr ul uh uk ux uy uz hc hn hring cc ce cl ch sv st sf sb sp lo hi bc be bl bh tl ta to tb tt tm rf all past ss rr rb re rc rw_ rm tk fd rt rl ra rn rs bf H locs ls d0 hd0 hRel hP hD hS hl)
    · exact lv_tableIn (off := 492) (tgt := 524) hx hb dL_law_32 (by decide) (by decide) rfl (by decide) (k11 nu nr nl nh nk nx ny nz tu tr ul uh uk ux uy uz hc hn hring cc ce cl ch sv st sf sb sp lo hi bc be bl bh tl ta to tb tt tm rf all past ss rr rb re rc rw_ rm tk fd rt rl ra rn rs bf H locs ls d0 hd0 hRel hP hD hS hl)
    · exact lv_tableIn (off := 525) (tgt := 557) hx hb dL_law_32 (by decide) (by decide) rfl (by decide) (k12 nu nr nl nh nk nx ny nz tu tr ul uh uk ux uy uz hc hn hring cc ce cl ch sv st sf sb sp lo hi bc be bl bh tl ta to tb tt tm rf all past ss rr rb re rc rw_ rm tk fd rt rl ra rn rs bf H locs ls d0 hd0 hRel hP hD hS hl)
    · exact lv_tableIn (off := 548) (tgt := 580) hx hb dL_law_32 (by decide) (by decide) rfl (by decide) (k13 nu nr nl nh nk nx ny nz tu tr ul uh uk ux uy uz hc hn hring cc ce cl ch sv st sf sb sp lo hi bc be bl bh tl ta to tb tt tm rf all past ss rr rb re rc rw_ rm tk fd rt rl ra rn rs bf H locs ls d0 hd0 hRel hP hD hS hl)
    · exact lv_tableIn (off := 601) (tgt := 633) hx hb dL_law_32 (by decide) (by decide) rfl (by decide) (k14 nu nr nl nh nk nx ny nz tu tr ul uh uk ux uy uz hc hn hring cc ce cl ch sv st sf sb sp lo hi bc be bl bh tl ta to tb tt tm rf all past ss rr rb re rc rw_ rm tk fd rt rl ra rn rs bf H locs ls d0 hd0 hRel hP hD hS hl)
    · exact lv_tableIn (off := 625) (tgt := 657) hx hb dL_law_32 (by decide) (by decide) rfl (by decide) (k15 nu nr nl nh nk nx ny nz tu tr ul uh uk ux uy uz hc hn hring cc ce cl ch sv st sf sb sp lo hi bc be bl bh tl ta to tb tt tm rf all past ss rr rb re rc rw_ rm tk fd rt rl ra rn rs bf H locs ls d0 hd0 hRel hP hD hS hl)
    · exact lv_tableIn (off := 668) (tgt := 700) hx hb dL_law_32 (by decide) (by decide) rfl (by decide) (k16 nu nr nl nh nk nx ny nz tu tr ul uh uk ux uy uz hc hn hring cc ce cl ch sv st sf sb sp lo hi bc be bl bh tl ta to tb tt tm rf all past ss rr rb re rc rw_ rm tk fd rt rl ra rn rs bf H locs ls d0 hd0 hRel hP hD hS hl)
    · exact lv_tableIn (off := 701) (tgt := 733) hx hb dL_law_32 (by decide) (by decide) rfl (by decide) (k17 nu nr nl nh nk nx ny nz tu tr ul uh uk ux uy uz hc hn hring cc ce cl ch sv st sf sb sp lo hi bc be bl bh tl ta to tb tt tm rf all past ss rr rb re rc rw_ rm tk fd rt rl ra rn rs bf H locs ls d0 hd0 hRel hP hD hS hl)
    · exact lv_tableIn (off := 724) (tgt := 756) hx hb dL_law_32 (by decide) (by decide) rfl (by decide) (k18 nu nr nl nh nk nx ny nz tu tr ul uh uk ux uy uz hc hn hring cc ce cl ch sv st sf sb sp lo hi bc be bl bh tl ta to tb tt tm rf all past ss rr rb re rc rw_ rm tk fd rt rl ra rn rs bf H locs ls d0 hd0 hRel hP hD hS hl)
    · exact lv_tableIn (off := 737) (tgt := 769) hx hb dL_law_32 (by decide) (by decide) rfl (by decide) (k19 nu nr nl nh nk nx ny nz tu tr ul uh uk ux uy uz hc hn hring cc ce cl ch sv st sf sb sp lo hi bc be bl bh tl ta to tb tt tm rf all past ss rr rb re rc rw_ rm tk fd rt rl ra rn rs bf H locs ls d0 hd0 hRel hP hD hS hl)
    · exact lv_tableIn (off := 750) (tgt := 782) hx hb dL_law_32 (by decide) (by decide) rfl (by decide) (k20 nu nr nl nh nk nx ny nz tu tr ul uh uk ux uy uz hc hn hring cc ce cl ch sv st sf sb sp lo hi bc be bl bh tl ta to tb tt tm rf all past ss rr rb re rc rw_ rm tk fd rt rl ra rn rs bf H locs ls d0 hd0 hRel hP hD hS hl)
    · exact lv_tableIn (off := 763) (tgt := 795) hx hb dL_law_32 (by decide) (by decide) rfl (by decide) (k21 nu nr nl nh nk nx ny nz tu tr ul uh uk ux uy uz hc hn hring cc ce cl ch sv st sf sb sp lo hi bc be bl bh tl ta to tb tt tm rf all past ss rr rb re rc rw_ rm tk fd rt rl ra rn rs bf H locs ls d0 hd0 hRel hP hD hS hl)
    · exact lv_tableIn (off := 786) (tgt := 818) hx hb dL_law_32 (by decide) (by decide) rfl (by decide) (k22 nu nr nl nh nk nx ny nz tu tr ul uh uk ux uy uz hc hn hring cc ce cl ch sv st sf sb sp lo hi bc be bl bh tl ta to tb tt tm rf all past ss rr rb re rc rw_ rm tk fd rt rl ra rn rs bf H locs ls d0 hd0 hRel hP hD hS hl)
  · refine lv_tableOut (tgt := 832) hx hb dL_law_32 (Or.inr (by rw [nI_toInt (by omega)]; omega)) (by decide) ?_
    exact k832 nu nr nl nh nk nx ny nz tu tr ul uh uk ux uy uz hc hn hring cc ce cl ch sv st sf sb sp lo hi bc be bl bh tl ta to tb tt tm rf all past ss rr rb re rc rw_ rm tk fd rt rl ra rn rs bf H locs ls d0 hd0 hRel hP hD hS hl
theorem law_loop {p : Program} {l : Launch} {e : Env} {s : State} {m : MethodId} {below : List Frame} {meth : Method} {c : Code} {D : va_G} {cI cM : ClassId} {b h0 h1 L : Nat} {ax am : Nat → Nat} {xs : Nat → Int32} (hL : L ≤ 2560) (C0 : lw_At p s m meth c b L xs) (hK : va_K D vwCl (g_tys cI cM) s) : ∀ n i : Nat, L < i + n → i ≤ L + 5 → LIp p l e s m below meth c D cI cM b h0 h1 ax am 18 i := by
  intro n
  induction n with
  | zero =>
    intro i h1 h2
    exact lc_exit hL C0 (by omega) h2
  | succ n ih =>
    intro i h1 h2
    by_cases hi : i + 5 ≤ L
    · have k18 := ih (i + 5) (by omega) (by omega)
      have k832 := lc_832 hL C0 hi k18
      exact lc_go hL C0 hi (lc_unknown hL C0 hK hi k832) (lc_range hL C0 hK hi k832) (lc_rule hL C0 hK hi k832) (lc_drops hL C0 hK hi k832) (lc_cuts hL C0 hK hi k832) (lc_of hL C0 hK hi k832) (lc_holding hL C0 hK hi k832) (lc_about hL C0 hK hi k832) (lc_would hL C0 hK hi k832) (lc_does hL C0 hK hi k832) (lc_solves hL C0 hK hi k832) (lc_point hL C0 hK hi k832) (lc_whole hL C0 hK hi k832) (lc_narrow hL C0 hK hi k832) (lc_wide hL C0 hK hi k832) (lc_reckons hL C0 hK hi k832) (lc_rest hL C0 hK hi k832) (lc_type hL C0 hK hi k832) (lc_clear hL C0 hK hi k832) (lc_reads hL C0 hK hi k832) (lc_back hL C0 hK hi k832) (lc_told hL C0 hK hi k832) (lc_digest hL C0 hK hi k832) k832
    · exact lc_exit hL C0 hi h2
