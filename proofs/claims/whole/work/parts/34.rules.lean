/-! a product's rule; one rule; a round; all rounds -/
theorem y_pstep {n N x y z : Nat} {B : aB} (hn : n ≤ 6) (hx : x < n) (hy : y < n) (hB : aOK n B) {k : Int32 → Int32 → (Nat → Int32) → Int32 → Int32 → Int32 → Int32 → Int32 → Int32 → Option (Int32 × Int32 × (Nat → Int32))} {e c : Int32} {box : Nat → Int32} (hR : aR n B e c box) {j : Int32} {m M a b : Int} (hj : ¬ 4 ≤ j) (ha : (2 ≤ j ∧ a = B.2.1 x) ∨ (¬ 2 ≤ j ∧ a = B.1 x)) (hb : (j - j / 2 * 2 = 0 ∧ b = B.1 y) ∨ (¬ j - j / 2 * 2 = 0 ∧ b = B.2.1 y)) (hm : -2139095041 ≤ m ∧ m ≤ 2139095040) (hM : -2139095041 ≤ M ∧ M ≤ 2139095040) :
    f_X8_cutsProduct_C11 N k e c box (nI x) (nI y) (nI z) (Int32.ofInt m) (Int32.ofInt M) j = k e c box (nI x) (nI y) (nI z) (Int32.ofInt (min m (pMul a b))) (Int32.ofInt (max M (pMul a b))) (j + 1) := by
  obtain ⟨px1, px2, px3⟩ := hB x hx
  obtain ⟨py1, py2, py3⟩ := hB y hy
  have pa : isP a := by
    rcases ha with ⟨-, h⟩ | ⟨-, h⟩ <;> rw [h] <;> assumption
  have pb : isP b := by
    rcases hb with ⟨-, h⟩ | ⟨-, h⟩ <;> rw [h] <;> assumption
  have bv := pMul_in a b
  have h56 : f_X8_cutsProduct_B56 N k e c box (nI x) (nI y) (nI z) (Int32.ofInt m) (Int32.ofInt M) j (Int32.ofInt a) (Int32.ofInt b) = k e c box (nI x) (nI y) (nI z) (Int32.ofInt (min m (pMul a b))) (Int32.ofInt (max M (pMul a b))) (j + 1) := by
    unfold f_X8_cutsProduct_B56 f_X8_cutsProduct_B75 f_X8_cutsProduct_B91
    rw [y_product pa pb, o_b1_some]
    have i1 := iI_le (a := m) (b := pMul a b) (by omega) (by omega) (by omega) (by omega)
    have i2 := iI_le (a := pMul a b) (b := M) (by omega) (by omega) (by omega) (by omega)
    by_cases g1 : m ≤ pMul a b
    · rw [if_pos (i1.mpr g1), show min m (pMul a b) = m by omega]
      by_cases g2 : pMul a b ≤ M
      · rw [if_pos (i2.mpr g2), show max M (pMul a b) = M by omega]
      · rw [if_neg (fun q => g2 (i2.mp q)), show max M (pMul a b) = pMul a b by omega]
    · rw [if_neg (fun q => g1 (i1.mp q)), show min m (pMul a b) = pMul a b by omega]
      by_cases g2 : pMul a b ≤ M
      · rw [if_pos (i2.mpr g2), show max M (pMul a b) = M by omega]
      · rw [if_neg (fun q => g2 (i2.mp q)), show max M (pMul a b) = pMul a b by omega]
  have h36 : f_X8_cutsProduct_B36 N k e c box (nI x) (nI y) (nI z) (Int32.ofInt m) (Int32.ofInt M) j (Int32.ofInt a) = k e c box (nI x) (nI y) (nI z) (Int32.ofInt (min m (pMul a b))) (Int32.ofInt (max M (pMul a b))) (j + 1) := by
    unfold f_X8_cutsProduct_B36
    rcases hb with ⟨g, h⟩ | ⟨g, h⟩
    · rw [if_pos g, y_low hn hy hR, o_b1_some, ← h, h56]
    · rw [if_neg g, y_high hn hy hR, o_b1_some, ← h, h56]
  unfold f_X8_cutsProduct_C11
  rw [if_neg hj]
  rcases ha with ⟨g, h⟩ | ⟨g, h⟩
  · rw [if_pos g, y_high hn hx hR, o_b1_some, ← h, h36]
  · rw [if_neg g, y_low hn hx hR, o_b1_some, ← h, h36]
theorem cut_product {n N x y z : Nat} {B : aB} (hn : n ≤ 6) (hN : 40 ≤ N) (hx : x < n) (hy : y < n) (hz : z < n) (hB : aOK n B) : ∃ B', both n B B' (fun c e l h => o_b4 (f_X0_cutProduct c e l h (nI x) (nI y) (nI z)) (fun c1 e1 l1 h1 => o_b4 (f_X0_cutFactor N c1 e1 h1 l1 (nI x) (nI y) (nI z)) (fun c2 e2 h2 l2 => o_b4 (f_X0_cutFactor N c2 e2 h2 l2 (nI y) (nI x) (nI z)) (fun c3 e3 h3 l3 => some (c3, e3, l3, h3))))) (fun e c b => f_X8_cutsProduct N e c b (nI x) (nI y) (nI z)) := by
  obtain ⟨px1, px2, px3⟩ := hB x hx
  obtain ⟨py1, py2, py3⟩ := hB y hy
  have b0 := pMul_in (B.1 x) (B.1 y)
  have b1 := pMul_in (B.1 x) (B.2.1 y)
  have b2 := pMul_in (B.2.1 x) (B.1 y)
  have b3 := pMul_in (B.2.1 x) (B.2.1 y)
  obtain ⟨f, hf⟩ : ∃ f, f = min (min (pMul (B.1 x) (B.1 y)) (pMul (B.1 x) (B.2.1 y))) (min (pMul (B.2.1 x) (B.1 y)) (pMul (B.2.1 x) (B.2.1 y))) := ⟨_, rfl⟩
  obtain ⟨t, ht⟩ : ∃ t, t = max (max (pMul (B.1 x) (B.1 y)) (pMul (B.1 x) (B.2.1 y))) (max (pMul (B.2.1 x) (B.1 y)) (pMul (B.2.1 x) (B.2.1 y))) := ⟨_, rfl⟩
  have bf : -2139095041 ≤ f ∧ f ≤ 2139095040 := by omega
  have bt : -2139095041 ≤ t ∧ t ≤ 2139095040 := by omega
  have hB1 : aOK n (aLeave z f t B) := aLeave_ok hB
  obtain ⟨f1, t1, -, -, c1, r1⟩ := factor (N := N) (u := x) (o := y) (z := z) hn hN hx hy hz hB1
  have hB2 : aOK n (aLeave x f1 t1 (aLeave z f t B)) := aLeave_ok hB1
  obtain ⟨f2, t2, -, -, c2, r2⟩ := factor (N := N) (u := y) (o := x) (z := z) hn hN hy hx hz hB2
  refine ⟨aLeave y f2 t2 (aLeave x f1 t1 (aLeave z f t B)), aLeave_ok hB2, fun cut empty vl vh hC => ?_, fun empty cut box hR => ?_⟩
  · obtain ⟨ca, ea, la_, ha, hea, hCa⟩ := z_leave (f := f) (t := t) hn hz hB hC (by omega) (by omega) (by omega) (by omega)
    obtain ⟨cb, eb, lb, hb, heb, hCb⟩ := c1 ca ea la_ ha hCa
    obtain ⟨cc, ec, lc, hc, hec, hCc⟩ := c2 cb eb lb hb hCb
    refine ⟨cc, ec, lc, hc, ?_, hCc⟩
    have e1 : f_X0_cutProduct cut empty vl vh (nI x) (nI y) (nI z) = some (ca, ea, la_, ha) := by
      unfold f_X0_cutProduct
      rw [o_in6 hx hn, o_in6 hy hn, z_cl hx hn, z_cl hy hn, aC_l hC hx, aC_l hC hy, z_product px1 py1, o_b1_some, o_in6 hx hn, o_in6 hy hn, aC_h hC hy, z_product px1 py2, o_b1_some, o_in6 hx hn, o_in6 hy hn, aC_h hC hx, z_product px2 py1, o_b1_some, o_in6 hx hn, o_in6 hy hn, z_product px2 py2, o_b1_some, z_min (by omega) (by omega) (by omega) (by omega), z_min (by omega) (by omega) (by omega) (by omega), z_min (by omega) (by omega) (by omega) (by omega), z_max (by omega) (by omega) (by omega) (by omega), z_max (by omega) (by omega) (by omega) (by omega), z_max (by omega) (by omega) (by omega) (by omega), ← hf, ← ht, hea, o_b4_some]
    show o_b4 (f_X0_cutProduct cut empty vl vh (nI x) (nI y) (nI z)) _ = _
    rw [e1, o_b4_some, heb, o_b4_some, hec, o_b4_some]
  · obtain ⟨ea, ca, ba, hea, hRa⟩ := y_keeps (f := f) (t := t) hn hz hB hR (by omega) (by omega) (by omega) (by omega)
    obtain ⟨eb, cb, bb, heb, hRb⟩ := r1 ea ca ba hRa
    obtain ⟨ec, cc, bc, hec, hRc⟩ := r2 eb cb bb hRb
    refine ⟨ec, cc, bc, ?_, hRc⟩
    show f_X8_cutsProduct N empty cut box (nI x) (nI y) (nI z) = _
    obtain ⟨N', rfl⟩ : ∃ N', N = N' + 5 := ⟨N - 5, by omega⟩
    unfold f_X8_cutsProduct
    rw [show f_X8_cutsProduct_L11 (N' + 5) (N' + 5) = f_X8_cutsProduct_C11 (N' + 5) (f_X8_cutsProduct_L11 (N' + 5) (N' + 4)) from rfl]
    rw [show (2139095040 : Int32) = Int32.ofInt 2139095040 from rfl, show (-2139095041 : Int32) = Int32.ofInt (-2139095041) from rfl]
    rw [y_pstep hn hx hy hB hR (a := B.1 x) (b := B.1 y) (by decide) (Or.inr ⟨by decide, rfl⟩) (Or.inl ⟨by decide, rfl⟩) (by omega) (by omega)]
    rw [show f_X8_cutsProduct_L11 (N' + 5) (N' + 4) = f_X8_cutsProduct_C11 (N' + 5) (f_X8_cutsProduct_L11 (N' + 5) (N' + 3)) from rfl]
    rw [y_pstep hn hx hy hB hR (a := B.1 x) (b := B.2.1 y) (by decide) (Or.inr ⟨by decide, rfl⟩) (Or.inr ⟨by decide, rfl⟩) (by omega) (by omega)]
    rw [show f_X8_cutsProduct_L11 (N' + 5) (N' + 3) = f_X8_cutsProduct_C11 (N' + 5) (f_X8_cutsProduct_L11 (N' + 5) (N' + 2)) from rfl]
    rw [y_pstep hn hx hy hB hR (a := B.2.1 x) (b := B.1 y) (by decide) (Or.inl ⟨by decide, rfl⟩) (Or.inl ⟨by decide, rfl⟩) (by omega) (by omega)]
    rw [show f_X8_cutsProduct_L11 (N' + 5) (N' + 2) = f_X8_cutsProduct_C11 (N' + 5) (f_X8_cutsProduct_L11 (N' + 5) (N' + 1)) from rfl]
    rw [y_pstep hn hx hy hB hR (a := B.2.1 x) (b := B.2.1 y) (by decide) (Or.inl ⟨by decide, rfl⟩) (Or.inr ⟨by decide, rfl⟩) (by omega) (by omega)]
    rw [show f_X8_cutsProduct_L11 (N' + 5) (N' + 1) = f_X8_cutsProduct_C11 (N' + 5) (f_X8_cutsProduct_L11 (N' + 5) N') from rfl]
    unfold f_X8_cutsProduct_C11
    rw [if_pos (by decide), iI_64 (by omega) (by omega), iI_64 (by omega) (by omega)]
    rw [show min (min (min (min 2139095040 (pMul (B.1 x) (B.1 y))) (pMul (B.1 x) (B.2.1 y))) (pMul (B.2.1 x) (B.1 y))) (pMul (B.2.1 x) (B.2.1 y)) = f by omega]
    rw [show max (max (max (max (-2139095041) (pMul (B.1 x) (B.1 y))) (pMul (B.1 x) (B.2.1 y))) (pMul (B.2.1 x) (B.1 y))) (pMul (B.2.1 x) (B.2.1 y)) = t by omega]
    rw [hea, o_b3_some, heb, o_b3_some, hec, o_b3_some]
/-! one rule -/
def stC (N : Nat) (kd x y z : Int32) (c e : Int32) (l h : Nat → Int32) : Option (Int32 × Int32 × (Nat → Int32) × (Nat → Int32)) :=
  if kd = 0 then f_X0_cutSum N c e l h x y z
  else if kd = 1 then o_b4 (f_X0_cutProduct c e l h x y z) (fun c1 e1 l1 h1 => o_b4 (f_X0_cutFactor N c1 e1 h1 l1 x y z) (fun c2 e2 h2 l2 => o_b4 (f_X0_cutFactor N c2 e2 h2 l2 y x z) (fun c3 e3 h3 l3 => some (c3, e3, l3, h3))))
  else if kd = 2 then f_X0_cutMost c e l h x y z
  else if kd = 3 then f_X0_cutLess c e l h x y
  else if kd = 4 then f_X0_cutSame c e l h x y
  else o_b4 (f_X0_cutTurned c e h l x y) (fun c' e' h' l' => some (c', e', l', h'))
def stR (N : Nat) (kd x y z : Int32) (e c : Int32) (b : Nat → Int32) : Option (Int32 × Int32 × (Nat → Int32)) :=
  if kd = 0 then f_X8_cutsSum N e c b x y z
  else if kd = 1 then f_X8_cutsProduct N e c b x y z
  else if kd = 2 then f_X8_cutsMost e c b x y z
  else if kd = 3 then f_X8_cutsLess e c b x y
  else if kd = 4 then o_b3 (f_X8_keepsSame e c b x y) (fun e1 c1 b1 => f_X8_keepsSame e1 c1 b1 y x)
  else o_b3 (f_X8_keepsTurned e c b y x) (fun e1 c1 b1 => f_X8_keepsTurned e1 c1 b1 x y)
theorem stC_0 {N : Nat} {x y z : Int32} : stC N (0 : Int32) x y z = fun c e l h => f_X0_cutSum N c e l h x y z := by
  funext c e l h
  unfold stC
  rw [if_pos rfl]
theorem stR_0 {N : Nat} {x y z : Int32} : stR N (0 : Int32) x y z = fun e c b => f_X8_cutsSum N e c b x y z := by
  funext e c b
  unfold stR
  rw [if_pos rfl]
theorem stC_1 {N : Nat} {x y z : Int32} : stC N (1 : Int32) x y z = fun c e l h => o_b4 (f_X0_cutProduct c e l h x y z) (fun c1 e1 l1 h1 => o_b4 (f_X0_cutFactor N c1 e1 h1 l1 x y z) (fun c2 e2 h2 l2 => o_b4 (f_X0_cutFactor N c2 e2 h2 l2 y x z) (fun c3 e3 h3 l3 => some (c3, e3, l3, h3)))) := by
  funext c e l h
  unfold stC
  rw [if_neg (by decide), if_pos rfl]
theorem stR_1 {N : Nat} {x y z : Int32} : stR N (1 : Int32) x y z = fun e c b => f_X8_cutsProduct N e c b x y z := by
  funext e c b
  unfold stR
  rw [if_neg (by decide), if_pos rfl]
theorem stC_2 {N : Nat} {x y z : Int32} : stC N (2 : Int32) x y z = fun c e l h => f_X0_cutMost c e l h x y z := by
  funext c e l h
  unfold stC
  rw [if_neg (by decide), if_neg (by decide), if_pos rfl]
theorem stR_2 {N : Nat} {x y z : Int32} : stR N (2 : Int32) x y z = fun e c b => f_X8_cutsMost e c b x y z := by
  funext e c b
  unfold stR
  rw [if_neg (by decide), if_neg (by decide), if_pos rfl]
theorem stC_3 {N : Nat} {x y z : Int32} : stC N (3 : Int32) x y z = fun c e l h => f_X0_cutLess c e l h x y := by
  funext c e l h
  unfold stC
  rw [if_neg (by decide), if_neg (by decide), if_neg (by decide), if_pos rfl]
theorem stR_3 {N : Nat} {x y z : Int32} : stR N (3 : Int32) x y z = fun e c b => f_X8_cutsLess e c b x y := by
  funext e c b
  unfold stR
  rw [if_neg (by decide), if_neg (by decide), if_neg (by decide), if_pos rfl]
theorem stC_4 {N : Nat} {x y z : Int32} : stC N (4 : Int32) x y z = fun c e l h => f_X0_cutSame c e l h x y := by
  funext c e l h
  unfold stC
  rw [if_neg (by decide), if_neg (by decide), if_neg (by decide), if_neg (by decide), if_pos rfl]
theorem stR_4 {N : Nat} {x y z : Int32} : stR N (4 : Int32) x y z = fun e c b => o_b3 (f_X8_keepsSame e c b x y) (fun e1 c1 b1 => f_X8_keepsSame e1 c1 b1 y x) := by
  funext e c b
  unfold stR
  rw [if_neg (by decide), if_neg (by decide), if_neg (by decide), if_neg (by decide), if_pos rfl]
theorem stC_5 {N : Nat} {x y z : Int32} : stC N (5 : Int32) x y z = fun c e l h => o_b4 (f_X0_cutTurned c e h l x y) (fun c' e' h' l' => some (c', e', l', h')) := by
  funext c e l h
  unfold stC
  rw [if_neg (by decide), if_neg (by decide), if_neg (by decide), if_neg (by decide), if_neg (by decide)]
theorem stR_5 {N : Nat} {x y z : Int32} : stR N (5 : Int32) x y z = fun e c b => o_b3 (f_X8_keepsTurned e c b y x) (fun e1 c1 b1 => f_X8_keepsTurned e1 c1 b1 x y) := by
  funext e c b
  unfold stR
  rw [if_neg (by decide), if_neg (by decide), if_neg (by decide), if_neg (by decide), if_neg (by decide)]
theorem step_both {n N kd x y z : Nat} {B : aB} (hn : n ≤ 6) (hN : 40 ≤ N) (hk : kd ≤ 5) (hx : x < n) (hy : y < n) (hz : z < n) (hB : aOK n B) : ∃ B', both n B B' (stC N (nI kd) (nI x) (nI y) (nI z)) (stR N (nI kd) (nI x) (nI y) (nI z)) := by
  have e : kd = 0 ∨ kd = 1 ∨ kd = 2 ∨ kd = 3 ∨ kd = 4 ∨ kd = 5 := by omega
  rcases e with rfl | rfl | rfl | rfl | rfl | rfl
  · rw [show nI 0 = (0 : Int32) from rfl, stC_0, stR_0]
    exact cut_sum hn hN hx hy hz hB
  · rw [show nI 1 = (1 : Int32) from rfl, stC_1, stR_1]
    exact cut_product hn hN hx hy hz hB
  · rw [show nI 2 = (2 : Int32) from rfl, stC_2, stR_2]
    exact ⟨_, cut_most hn hx hy hz hB⟩
  · rw [show nI 3 = (3 : Int32) from rfl, stC_3, stR_3]
    exact ⟨_, cut_less hn hx hy hB⟩
  · rw [show nI 4 = (4 : Int32) from rfl, stC_4, stR_4]
    exact ⟨_, cut_same hn hx hy hB⟩
  · rw [show nI 5 = (5 : Int32) from rfl, stC_5, stR_5]
    exact ⟨_, cut_turned hn hx hy hB⟩
