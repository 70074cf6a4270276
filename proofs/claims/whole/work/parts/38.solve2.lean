/-! ===== one box taken; all of solving ===== -/
theorem cpy6 {n k : Nat} {L : Nat → Int} {src dst : Nat → Int32} (hn : n ≤ 6) (h : ∀ u, u < n → src (k + u) = Int32.ofInt (L u)) : ∀ u, u < n → va_cpy src dst k 0 6 u = Int32.ofInt (L u) := fun u hu => by
  rw [pk_cpy_in (by omega) (by omega), show k + (u - 0) = k + u by omega]
  exact h u hu
theorem nI_none {a : Nat} (h : a ≤ 12) : ¬ nI a = -2139095049 := fun q => nI_pos (n := a) (by omega) (by rw [q]; decide)
def tail46 (fnd : Bool) (P : Nat → Int) (n : Nat) (bl : Nat → Int32) : Prop := fnd = true → lC n P bl
/-- the class takes a box -/
theorem z_take {S : mS} {N nn t q0 : Nat} {Q : rQ} (hS : mOK S) (ht : t < nn) (hnn : nn ≤ 60) (hq : q0 ≤ t) {a : Nat} {B' : aB} (ha : a ≤ 12)
    (c' : ∀ kd x y z, rC S kd x y z → ∀ c e l h, uC (sn S, sm S, (Q q0).1, (Q q0).2, sk S, sx S, sy S, sz S) l h → ∃ c' e' l' h', f_X0_cutByRules N x y z kd c e l h 0 (nI (sm S)) 12 = some (fin B' a, c', e', l', h') ∧ aCw (sn S) B' e' l' h')
    {l0 h0 kd x y z : Nat → Int32} (hC : rC S kd x y z) {k46 : Int32 → Int32 → Int32 → Int32 → Int32 → Int32 → (Nat → Int32) → (Nat → Int32) → (Nat → Int32) → (Nat → Int32) → (Nat → Int32) → Int32 → Int32 → Option (Int32 × Int32 × Int32 × Int32 × Int32 × Int32 × (Nat → Int32) × (Nat → Int32) × (Nat → Int32) × (Nat → Int32) × (Nat → Int32))} {verdict solvedBy cut empty : Int32} {bl bh lows highs point : Nat → Int32} (hr : rowC (sn S) (q0 + 1) Q lows highs) :
    ∃ c1 e1 l1 h1, aCw (sn S) B' e1 l1 h1 ∧ f_X5_solve_C46 N (nI (sn S)) (nI (sm S)) l0 h0 x y z kd k46 verdict (nI t) (nI (q0 + 1)) solvedBy cut empty bl bh lows highs point (nI nn) 0 =
      if fin B' a = -2139095049 then k46 verdict (nI (t + 1)) (nI q0) solvedBy c1 e1 l1 h1 lows highs point (nI nn) 0
      else o_b1 (f_X5_widestOf N l1 h1 (nI (sn S))) (fun r132 => if r132 < 0 then o_b1 (f_X3_allRulesHold N 6 (nI (sm S)) kd x l1 y z) (fun r159 => k46 verdict (nI (t + 1)) (nI q0) solvedBy c1 e1 l1 h1 lows highs point (nI nn) r159) else o_b5 (f_X5_halve (nI q0) l1 h1 lows highs r132) (fun v_left l2 h2 lo hi => k46 verdict (nI (t + 1)) v_left solvedBy c1 e1 l2 h2 lo hi point (nI nn) 0)) := by
  have hn := hS.1
  obtain ⟨c1, e1, l1, h1, he, hw⟩ := c' kd x y z hC cut empty (va_cpy lows bl (6 * q0) 0 6) (va_cpy highs bh (6 * q0) 0 6) (fun u hu => ⟨cpy6 (k := 6 * q0) (L := (Q q0).1) hn (fun v hv => (hr q0 (by omega) v hv).1) u hu, cpy6 (k := 6 * q0) (L := (Q q0).2) hn (fun v hv => (hr q0 (by omega) v hv).2) u hu⟩)
  refine ⟨c1, e1, l1, h1, hw, ?_⟩
  unfold f_X5_solve_C46 f_X5_solve_B163
  have g1 : ¬ nI (q0 + 1) ≤ 0 := nI_nle (by omega) (by omega)
  have g2 : ¬ nI nn ≤ nI t := fun x => by
    have := (nI_leI (by omega) (by omega)).mp x
    omega
  rw [if_neg g1, if_neg g2, if_pos rfl, nI_pred, nI_1, show nI q0 * 6 = nI (6 * q0) by rw [show (6 : Int32) = nI 6 from rfl, pk_mul, Nat.mul_comm], z_load (by omega) (by decide), o_b2_some, he, o_b5_some]
/-- the reference takes a box -/
theorem y_take {S : mS} {N t q0 : Nat} {Q : rQ} (hS : mOK S) (hN : 40 ≤ N) (hq : q0 < 61) {a : Nat} {B' : aB} {all : Nat → Int32}
    (r' : ∀ c b, aRw (sn S) ((Q q0).1, (Q q0).2, false, false) 0 b → ∃ x' e' c' b', f_X8_cutsAll N all 0 c b = some (x', e', c', b') ∧ aRw (sn S) B' e' b' ∧ (B'.2.2.2 = false → x' = nI a))
    (e c : Int32) (box : Nat → Int32) {row : Nat → Int32} (hr : rowR (sn S) (q0 + 1) Q row) :
    ∃ e1 c1 b1, aRw (sn S) B' e1 b1 ∧ f_X8_takesBox N all e c (nI (q0 + 1)) (nI t) 0 box row =
      if e1 = 0 then o_b1 (f_X8_widest N all b1) (fun r73 => if 0 ≤ r73 then o_b1 (f_X8_low b1 r73) (fun r92 => o_b1 (f_X8_high b1 r73) (fun r98 => o_b1 (f_X8_floorHalf (r92.toInt64 + r98.toInt64)) (fun r109 => o_b2 (f_X8_puts N b1 (nI q0) row r73 (r109.toInt32 + 1) r98) (fun m1 row1 => o_b2 (f_X8_puts N b1 m1 row1 r73 r92 r109.toInt32) (fun m2 row2 => some (e1, c1, m2, nI (t + 1), 0, b1, row2))))))
        else o_b1 (f_X8_allHold N all b1) (fun r83 => o_ck (o_zb r83) (some (e1, c1, nI q0, nI (t + 1), r83, b1, row))))
      else some (e1, c1, nI q0, nI (t + 1), 0, b1, row) := by
  obtain ⟨box', -, h2, h3⟩ := takes_loop (N := N) (all := all) (q := q0) (by omega) e c (nI (t + 1)) 0 row 12 0 N box (by omega) (by omega)
  have hn := hS.1
  obtain ⟨x1, e1, c1, b1, hx, hw, hz⟩ := r' c box' ⟨rfl, fun u hu => ⟨by rw [h2 _ (by omega) (by omega)]; exact (hr q0 (by omega) u hu).1, by rw [h2 _ (by omega) (by omega)]; exact (hr q0 (by omega) u hu).2⟩⟩
  refine ⟨e1, c1, b1, hw, ?_⟩
  unfold f_X8_takesBox
  rw [nI_pred, nI_1]
  refine Eq.trans h3 ?_
  unfold f_X8_takesBox_C22
  rw [if_pos (show (12 : Int32) ≤ 12 by decide), hx, o_b4_some]
theorem take_both {S : mS} {N nn t q0 : Nat} {Q : rQ} (hS : mOK S) (hN : 40 ≤ N) (ht : t < nn) (hnn : nn ≤ 60) (hq : q0 ≤ t) (hQ : rowOK (sn S) (q0 + 1) Q) : ∃ (q' : Nat) (Q' : rQ) (fnd : Bool) (P : Nat → Int), q' ≤ t + 2 ∧ rowOK (sn S) q' Q' ∧
    (∀ l0 h0 kd x y z, rC S kd x y z → ∀ k46 verdict solvedBy cut empty bl bh lows highs point, rowC (sn S) (q0 + 1) Q lows highs → ∃ c1 e1 l1 h1 lo hi, f_X5_solve_C46 N (nI (sn S)) (nI (sm S)) l0 h0 x y z kd k46 verdict (nI t) (nI (q0 + 1)) solvedBy cut empty bl bh lows highs point (nI nn) 0 = k46 verdict (nI (t + 1)) (nI q') solvedBy c1 e1 l1 h1 lo hi point (nI nn) (bI fnd) ∧ rowC (sn S) q' Q' lo hi ∧ (fnd = true → lC (sn S) P l1)) ∧
    (∀ all, mR S all → ∀ e c box row, rowR (sn S) (q0 + 1) Q row → ∃ e1 c1 b1 r1, f_X8_takesBox N all e c (nI (q0 + 1)) (nI t) 0 box row = some (e1, c1, nI q', nI (t + 1), bI fnd, b1, r1) ∧ rowR (sn S) q' Q' r1 ∧ (fnd = true → lR (sn S) P b1)) := by
  have hn := hS.1
  have hB : aOK (sn S) ((Q q0).1, (Q q0).2, false, false) := fun u hu => hQ q0 (by omega) u hu
  obtain ⟨B', a, ha, ok, c', r'⟩ := cut_all (N := N) hS hN hB rfl
  by_cases he : B'.2.2.2 = true
  · refine ⟨q0, Q, false, fun _ => 0, by omega, fun i hi => hQ i (by omega), fun l0 h0 kd x y z hC k46 verdict solvedBy cut empty bl bh lows highs point hr => ?_, fun all hR e c box row hr => ?_⟩
    · obtain ⟨c1, e1, l1, h1, hw, heq⟩ := z_take (k46 := k46) (l0 := l0) (h0 := h0) (verdict := verdict) (solvedBy := solvedBy) (cut := cut) (empty := empty) (bl := bl) (bh := bh) (point := point) hS ht hnn hq ha c' hC hr
      refine ⟨c1, e1, l1, h1, lows, highs, ?_, fun i hi => hr i (by omega), fun q => by cases q⟩
      rw [heq, if_pos (by unfold fin; rw [if_pos he])]
      rfl
    · obtain ⟨e1, c1, b1, hw, heq⟩ := y_take (t := t) hS hN (by omega) (r' all hR) e c box hr
      refine ⟨e1, c1, b1, row, ?_, fun i hi => hr i (by omega), fun q => by cases q⟩
      rw [heq, if_neg (by rw [hw.1, he]; decide)]
      rfl
  have he' : B'.2.2.2 = false := by simpa using he
  have hfin : ¬ fin B' a = -2139095049 := by
    unfold fin
    rw [if_neg he]
    exact nI_none ha
  obtain ⟨W, hW, wc, wr⟩ := widest_both (N := N) hS hN ok
  rcases hW with hW | ⟨w, hw6, hW, hlt⟩
  · obtain ⟨b, ac, ar⟩ := allHold_both (N := N) (L := B'.1) hS hN (fun u hu => (ok u hu).1)
    refine ⟨q0, Q, b, B'.1, by omega, fun i hi => hQ i (by omega), fun l0 h0 kd x y z hC k46 verdict solvedBy cut empty bl bh lows highs point hr => ?_, fun all hR e c box row hr => ?_⟩
    · obtain ⟨c1, e1, l1, h1, hw, heq⟩ := z_take (k46 := k46) (l0 := l0) (h0 := h0) (verdict := verdict) (solvedBy := solvedBy) (cut := cut) (empty := empty) (bl := bl) (bh := bh) (point := point) hS ht hnn hq ha c' hC hr
      have hl : lC (sn S) B'.1 l1 := fun u hu => (hw.2 u hu).1
      refine ⟨c1, e1, l1, h1, lows, highs, ?_, fun i hi => hr i (by omega), fun _ => hl⟩
      rw [heq, if_neg hfin, wc l1 h1 e1 hw, o_b1_some, hW, if_pos (by decide), ac kd x y z l1 hC hl, o_b1_some]
    · obtain ⟨e1, c1, b1, hw, heq⟩ := y_take (t := t) hS hN (by omega) (r' all hR) e c box hr
      have hl : lR (sn S) B'.1 b1 := fun u hu => (hw.2 u hu).1
      refine ⟨e1, c1, b1, row, ?_, fun i hi => hr i (by omega), fun _ => hl⟩
      rw [heq, if_pos (by rw [hw.1, he']; rfl), wr all b1 e1 hR hw, o_b1_some, hW, if_neg (by decide), ar all b1 hR hl, o_b1_some, bI_zb, o_ck_true]
  · have bw := aOK_in ok hw6
    obtain ⟨mid, hmid⟩ : ∃ mid, mid = (B'.1 w + B'.2.1 w) / 2 := ⟨_, rfl⟩
    refine ⟨q0 + 2, qPut (q0 + 1) (iup B'.1 w (B'.1 w)) (iup B'.2.1 w mid) (qPut q0 (iup B'.1 w (mid + 1)) (iup B'.2.1 w (B'.2.1 w)) Q), false, fun _ => 0, by omega, fun i hi u hu => ?_, fun l0 h0 kd x y z hC k46 verdict solvedBy cut empty bl bh lows highs point hr => ?_, fun all hR e c box row hr => ?_⟩
    · have hu' := ok u hu
      unfold qPut iup
      by_cases g1 : i = q0 + 1
      · rw [if_pos g1]
        show isP (if u = w then B'.1 w else B'.1 u) ∧ isP (if u = w then mid else B'.2.1 u) ∧ (if u = w then B'.1 w else B'.1 u) ≤ (if u = w then mid else B'.2.1 u)
        by_cases g2 : u = w
        · rw [if_pos g2, if_pos g2]
          unfold isP
          omega
        · rw [if_neg g2, if_neg g2]
          exact hu'
      · rw [if_neg g1]
        by_cases g3 : i = q0
        · rw [if_pos g3]
          show isP (if u = w then mid + 1 else B'.1 u) ∧ isP (if u = w then B'.2.1 w else B'.2.1 u) ∧ (if u = w then mid + 1 else B'.1 u) ≤ (if u = w then B'.2.1 w else B'.2.1 u)
          by_cases g2 : u = w
          · rw [if_pos g2, if_pos g2]
            unfold isP
            omega
          · rw [if_neg g2, if_neg g2]
            exact hu'
        · rw [if_neg g3]
          exact hQ i (by omega) u hu
    · obtain ⟨c1, e1, l1, h1, hw, heq⟩ := z_take (k46 := k46) (l0 := l0) (h0 := h0) (verdict := verdict) (solvedBy := solvedBy) (cut := cut) (empty := empty) (bl := bl) (bh := bh) (point := point) hS ht hnn hq ha c' hC hr
      obtain ⟨wl, wh⟩ := hw.2 w hw6
      obtain ⟨loa, hia, hpa, hra⟩ := z_put (n := sn S) (q := q0) (Q := Q) (L := iup B'.1 w (mid + 1)) (H := iup B'.2.1 w (B'.2.1 w)) (bl := upd l1 w (Int32.ofInt (mid + 1))) (bh := h1) (lows := lows) (highs := highs) hn (by omega) (fun u hu => by
        unfold upd iup
        by_cases g : u = w
        · rw [if_pos g, if_pos g, if_pos g, g, wh]
          exact ⟨rfl, rfl⟩
        · rw [if_neg g, if_neg g, if_neg g]
          exact hw.2 u hu) (fun i hi => hr i (by omega))
      obtain ⟨lob, hib, hpb, hrb⟩ := z_put (n := sn S) (q := q0 + 1) (Q := qPut q0 (iup B'.1 w (mid + 1)) (iup B'.2.1 w (B'.2.1 w)) Q) (L := iup B'.1 w (B'.1 w)) (H := iup B'.2.1 w mid) (bl := upd (upd l1 w (Int32.ofInt (mid + 1))) w (Int32.ofInt (B'.1 w))) (bh := upd h1 w (Int32.ofInt mid)) (lows := loa) (highs := hia) hn (by omega) (fun u hu => by
        unfold upd iup
        by_cases g : u = w
        · rw [if_pos g, if_pos g, if_pos g, if_pos g]
          exact ⟨rfl, rfl⟩
        · rw [if_neg g, if_neg g, if_neg g, if_neg g, if_neg g]
          exact hw.2 u hu) hra
      refine ⟨c1, e1, upd (upd l1 w (Int32.ofInt (mid + 1))) w (Int32.ofInt (B'.1 w)), upd h1 w (Int32.ofInt mid), lob, hib, ?_, hrb, fun q => by cases q⟩
      rw [heq, if_neg hfin, wc l1 h1 e1 hw, o_b1_some, hW, if_neg (nI_pos (by omega))]
      have hh : f_X5_halve (nI q0) l1 h1 lows highs (nI w) = some (nI (q0 + 2), upd (upd l1 w (Int32.ofInt (mid + 1))) w (Int32.ofInt (B'.1 w)), upd h1 w (Int32.ofInt mid), lob, hib) := by
        unfold f_X5_halve
        simp only [o_nm]
        rw [o_inN (by omega) (by decide), o_inN (by omega) (by decide), nI_clamp (by omega), wl, wh, z_mid (by omega) (by omega) (by omega) (by omega), o_b1_some, ← hmid, o_inN (by omega) (by decide), iI_p1, hpa, o_b3_some, o_inN (by omega) (by decide), o_inN (by omega) (by decide), hpb, o_b3_some]
      rw [hh, o_b5_some]
      rfl
    · obtain ⟨e1, c1, b1, hw, heq⟩ := y_take (t := t) hS hN (by omega) (r' all hR) e c box hr
      have hwR : aR (sn S) B' e1 (bI B'.2.2.1) b1 := ⟨rfl, hw.1, hw.2⟩
      obtain ⟨ra, hpa, hra⟩ := y_puts (n := sn S) (N := N) (q := q0) (w := w) (Q := Q) (L := B'.1) (H := B'.2.1) (lo := mid + 1) (hi := B'.2.1 w) (box := b1) (row := row) hN hn hw6 (by omega) hw.2 (fun i hi => hr i (by omega))
      obtain ⟨rb, hpb, hrb⟩ := y_puts (n := sn S) (N := N) (q := q0 + 1) (w := w) (Q := qPut q0 (iup B'.1 w (mid + 1)) (iup B'.2.1 w (B'.2.1 w)) Q) (L := B'.1) (H := B'.2.1) (lo := B'.1 w) (hi := mid) (box := b1) (row := ra) hN hn hw6 (by omega) hw.2 hra
      refine ⟨e1, c1, b1, rb, ?_, hrb, fun q => by cases q⟩
      rw [heq, if_pos (by rw [hw.1, he']; rfl), wr all b1 e1 hR hw, o_b1_some, hW, if_pos (nI_pos' (by omega)), y_low hn hw6 hwR, o_b1_some, y_high hn hw6 hwR, o_b1_some, iI_64 (by omega) (by omega), iI_64 (by omega) (by omega), ← Int64.ofInt_add, y_half (by omega) (by omega), o_b1_some, ← hmid, jI_32, iI_p1, hpa, o_b2_some, hpb, o_b2_some]
      rfl
/-! all of solving -/
def vd (fnd : Bool) (q : Nat) : Int32 := if fnd = true then 0 else if q = 0 then 1 else 2
theorem z_B166 {N n q : Nat} {fnd : Bool} {P : Nat → Int} {un ru verdict taken solvedBy cut empty : Int32} {l0 h0 x y z kd bl bh lows highs point : Nat → Int32} (hn : n ≤ 6) (hq : q ≤ 61) (hP : fnd = true → lC n P bl) : ∃ point', f_X5_solve_B166 N un ru l0 h0 x y z kd verdict taken (nI q) solvedBy cut empty bl bh lows highs point (bI fnd) = some (vd fnd q, taken, nI q, solvedBy, cut, empty, bl, bh, lows, highs, point') ∧ (fnd = true → lC n P point') := by
  refine ⟨va_cpy bl point 0 0 6, ?_, fun h u hu => ?_⟩
  · have hd : decide (¬ (0 : Int32) < 0 ∧ ¬ (0 : Int32) < 0 ∧ ¬ (6 : Int32) < 0 ∧ (0 : Int32).toNatClampNeg + (6 : Int32).toNatClampNeg ≤ 6 ∧ (0 : Int32).toNatClampNeg + (6 : Int32).toNatClampNeg ≤ 6) = true := by decide
    unfold f_X5_solve_B166 f_X5_solve_B187 vd
    rw [hd, o_ck_true, o_ck_true, o_ck_true]
    cases fnd
    · rw [if_pos (show bI false = 0 by decide), if_neg (show ¬ false = true by decide)]
      by_cases g : q = 0
      · rw [if_pos (show nI q = 0 by rw [g]; rfl), if_pos g]
        rfl
      · rw [if_neg (nI_ne0 (by omega) (by omega)), if_neg g]
        rfl
    · rw [if_neg (show ¬ bI true = 0 by decide), if_pos rfl]
      rfl
  · rw [pk_cpy_in (by omega) (by omega), show 0 + (u - 0) = u by omega]
    exact hP h u hu
theorem solve_loop {S : mS} {N nn : Nat} (hS : mOK S) (hN : 40 ≤ N) (hnn : nn ≤ 60) : ∀ (j t q F : Nat) (Q : rQ), t + j = nn → j < F → q ≤ t + 1 → rowOK (sn S) q Q → ∃ (t' q' : Nat) (fnd : Bool) (P : Nat → Int), t' ≤ 60 ∧ q' ≤ 61 ∧
    (∀ l0 h0 kd x y z, rC S kd x y z → ∀ verdict solvedBy cut empty bl bh lows highs point, rowC (sn S) q Q lows highs → ∃ c1 e1 l1 h1 lo hi pt, f_X5_solve_L46 N (nI (sn S)) (nI (sm S)) l0 h0 x y z kd F verdict (nI t) (nI q) solvedBy cut empty bl bh lows highs point (nI nn) 0 = some (vd fnd q', nI t', nI q', solvedBy, c1, e1, l1, h1, lo, hi, pt) ∧ (fnd = true → lC (sn S) P pt)) ∧
    (∀ all, mR S all → ∀ e c box row, rowR (sn S) q Q row → ∃ e1 c1 b1 r1, f_X8_solve_L26 N all F e c (nI q) (nI t) 0 box row (nI nn) = some (e1, c1, nI q', nI t', bI fnd, b1, r1) ∧ (fnd = true → lR (sn S) P b1)) := by
  have hn := hS.1
  -- where it ends
  have fin0 : ∀ (t q F : Nat), t ≤ nn → q ≤ t + 1 → 0 < F → (t = nn ∨ q = 0) → ∃ (t' q' : Nat) (fnd : Bool) (P : Nat → Int), t' ≤ 60 ∧ q' ≤ 61 ∧
    (∀ l0 h0 kd x y z, rC S kd x y z → ∀ verdict solvedBy cut empty bl bh lows highs point, ∃ c1 e1 l1 h1 lo hi pt, f_X5_solve_L46 N (nI (sn S)) (nI (sm S)) l0 h0 x y z kd F verdict (nI t) (nI q) solvedBy cut empty bl bh lows highs point (nI nn) 0 = some (vd fnd q', nI t', nI q', solvedBy, c1, e1, l1, h1, lo, hi, pt) ∧ (fnd = true → lC (sn S) P pt)) ∧
    (∀ all, mR S all → ∀ e c box row, ∃ e1 c1 b1 r1, f_X8_solve_L26 N all F e c (nI q) (nI t) 0 box row (nI nn) = some (e1, c1, nI q', nI t', bI fnd, b1, r1) ∧ (fnd = true → lR (sn S) P b1)) := fun t q F ht hq hF hend => by
    obtain ⟨F', rfl⟩ : ∃ F', F = F' + 1 := ⟨F - 1, by omega⟩
    refine ⟨t, q, false, fun _ => 0, by omega, by omega, fun l0 h0 kd x y z hC verdict solvedBy cut empty bl bh lows highs point => ?_, fun all hR e c box row => ?_⟩
    · obtain ⟨pt, hpt, -⟩ := z_B166 (N := N) (n := sn S) (q := q) (fnd := false) (P := fun _ => 0) (un := nI (sn S)) (ru := nI (sm S)) (verdict := verdict) (taken := nI t) (solvedBy := solvedBy) (cut := cut) (empty := empty) (l0 := l0) (h0 := h0) (x := x) (y := y) (z := z) (kd := kd) (bl := bl) (bh := bh) (lows := lows) (highs := highs) (point := point) hn (by omega) (fun q => by cases q)
      refine ⟨cut, empty, bl, bh, lows, highs, pt, ?_, fun q => by cases q⟩
      rw [show f_X5_solve_L46 N (nI (sn S)) (nI (sm S)) l0 h0 x y z kd (F' + 1) = f_X5_solve_C46 N (nI (sn S)) (nI (sm S)) l0 h0 x y z kd (f_X5_solve_L46 N (nI (sn S)) (nI (sm S)) l0 h0 x y z kd F') from rfl]
      unfold f_X5_solve_C46
      rw [← hpt]
      by_cases g : q = 0
      · rw [g, if_pos (by decide)]
        rfl
      · rw [if_neg (nI_nle (by omega) (by omega)), if_pos ((nI_leI (by omega) (by omega)).mpr (by omega))]
        rfl
    · refine ⟨e, c, box, row, ?_, fun q => by cases q⟩
      rw [show f_X8_solve_L26 N all (F' + 1) = f_X8_solve_C26 N all (f_X8_solve_L26 N all F') from rfl]
      unfold f_X8_solve_C26
      rw [if_pos rfl]
      by_cases g : q = 0
      · rw [g, if_pos (by decide)]
        rfl
      · rw [if_neg (nI_nle (by omega) (by omega)), if_pos ((nI_leI (by omega) (by omega)).mpr (by omega))]
        rfl
  intro j
  induction j with
  | zero =>
    intro t q F Q ht hF hq hQ
    obtain ⟨t', q', fnd, P, h1, h2, h3, h4⟩ := fin0 t q F (by omega) hq (by omega) (Or.inl (by omega))
    exact ⟨t', q', fnd, P, h1, h2, fun l0 h0 kd x y z hC verdict solvedBy cut empty bl bh lows highs point _ => h3 l0 h0 kd x y z hC verdict solvedBy cut empty bl bh lows highs point, fun all hR e c box row _ => h4 all hR e c box row⟩
  | succ j ih =>
    intro t q F Q ht hF hq hQ
    by_cases hq0 : q = 0
    · obtain ⟨t', q', fnd, P, h1, h2, h3, h4⟩ := fin0 t q F (by omega) hq (by omega) (Or.inr hq0)
      exact ⟨t', q', fnd, P, h1, h2, fun l0 h0 kd x y z hC verdict solvedBy cut empty bl bh lows highs point _ => h3 l0 h0 kd x y z hC verdict solvedBy cut empty bl bh lows highs point, fun all hR e c box row _ => h4 all hR e c box row⟩
    obtain ⟨q0, rfl⟩ : ∃ q0, q = q0 + 1 := ⟨q - 1, by omega⟩
    obtain ⟨F', rfl⟩ : ∃ F', F = F' + 1 := ⟨F - 1, by omega⟩
    obtain ⟨q1, Q1, fnd, P, hq1, hQ1, tc, tr⟩ := take_both (N := N) (nn := nn) (t := t) (q0 := q0) hS hN (by omega) hnn (by omega) hQ
    have hnt : ¬ nI nn ≤ nI t := fun x => by
      have := (nI_leI (by omega) (by omega)).mp x
      omega
    have rf : ∀ all, mR S all → ∀ e c box row, rowR (sn S) (q0 + 1) Q row → ∃ e1 c1 b1 r1, f_X8_solve_L26 N all (F' + 1) e c (nI (q0 + 1)) (nI t) 0 box row (nI nn) = f_X8_solve_L26 N all F' e1 c1 (nI q1) (nI (t + 1)) (bI fnd) b1 r1 (nI nn) ∧ rowR (sn S) q1 Q1 r1 ∧ (fnd = true → lR (sn S) P b1) := fun all hR e c box row hr => by
      obtain ⟨e1, c1, b1, r1, heq, h5, h6⟩ := tr all hR e c box row hr
      refine ⟨e1, c1, b1, r1, ?_, h5, h6⟩
      rw [show f_X8_solve_L26 N all (F' + 1) = f_X8_solve_C26 N all (f_X8_solve_L26 N all F') from rfl]
      unfold f_X8_solve_C26
      rw [if_pos rfl, if_neg (nI_nle (by omega) (by omega)), if_neg hnt, heq, o_b7_some]
    cases fnd
    · obtain ⟨t', q', fnd', P', h1, h2, h3, h4⟩ := ih (t + 1) q1 F' Q1 (by omega) (by omega) (by omega) hQ1
      refine ⟨t', q', fnd', P', h1, h2, fun l0 h0 kd x y z hC verdict solvedBy cut empty bl bh lows highs point hr => ?_, fun all hR e c box row hr => ?_⟩
      · obtain ⟨c1, e1, l1, hh1, lo, hi, heq, hr1, -⟩ := tc l0 h0 kd x y z hC (f_X5_solve_L46 N (nI (sn S)) (nI (sm S)) l0 h0 x y z kd F') verdict solvedBy cut empty bl bh lows highs point hr
        obtain ⟨c2, e2, l2, hh2, lo2, hi2, pt, heq2, hP⟩ := h3 l0 h0 kd x y z hC verdict solvedBy c1 e1 l1 hh1 lo hi point hr1
        refine ⟨c2, e2, l2, hh2, lo2, hi2, pt, ?_, hP⟩
        rw [← heq2]
        exact heq
      · obtain ⟨e1, c1, b1, r1, heq, hr1, -⟩ := rf all hR e c box row hr
        obtain ⟨e2, c2, b2, r2, heq2, hP⟩ := h4 all hR e1 c1 b1 r1 hr1
        refine ⟨e2, c2, b2, r2, ?_, hP⟩
        rw [← heq2]
        exact heq
    · obtain ⟨F'', hF''⟩ : ∃ F'', F' = F'' + 1 := ⟨F' - 1, by omega⟩
      refine ⟨t + 1, q1, true, P, by omega, by omega, fun l0 h0 kd x y z hC verdict solvedBy cut empty bl bh lows highs point hr => ?_, fun all hR e c box row hr => ?_⟩
      · obtain ⟨c1, e1, l1, hh1, lo, hi, heq, hr1, hP1⟩ := tc l0 h0 kd x y z hC (f_X5_solve_L46 N (nI (sn S)) (nI (sm S)) l0 h0 x y z kd F') verdict solvedBy cut empty bl bh lows highs point hr
        obtain ⟨pt, hpt, hP⟩ := z_B166 (N := N) (n := sn S) (q := q1) (fnd := true) (P := P) (un := nI (sn S)) (ru := nI (sm S)) (verdict := verdict) (taken := nI (t + 1)) (solvedBy := solvedBy) (cut := c1) (empty := e1) (l0 := l0) (h0 := h0) (x := x) (y := y) (z := z) (kd := kd) (bl := l1) (bh := hh1) (lows := lo) (highs := hi) (point := point) hn (by omega) hP1
        refine ⟨c1, e1, l1, hh1, lo, hi, pt, ?_, hP⟩
        rw [← hpt]
        refine Eq.trans heq ?_
        rw [hF'', show f_X5_solve_L46 N (nI (sn S)) (nI (sm S)) l0 h0 x y z kd (F'' + 1) = f_X5_solve_C46 N (nI (sn S)) (nI (sm S)) l0 h0 x y z kd (f_X5_solve_L46 N (nI (sn S)) (nI (sm S)) l0 h0 x y z kd F'') from rfl]
        unfold f_X5_solve_C46
        by_cases g1 : nI q1 ≤ 0
        · rw [if_pos g1]
        · rw [if_neg g1]
          by_cases g2 : nI nn ≤ nI (t + 1)
          · rw [if_pos g2]
          · rw [if_neg g2, if_neg (by decide)]
      · obtain ⟨e1, c1, b1, r1, heq, hr1, hP1⟩ := rf all hR e c box row hr
        refine ⟨e1, c1, b1, r1, ?_, hP1⟩
        refine Eq.trans heq ?_
        rw [hF'', show f_X8_solve_L26 N all (F'' + 1) = f_X8_solve_C26 N all (f_X8_solve_L26 N all F'') from rfl]
        unfold f_X8_solve_C26
        rw [if_neg (by decide)]
