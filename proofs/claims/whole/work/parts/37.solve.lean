/-! ===== solving ===== -/
theorem z_load {M k : Nat} {p1 p2 l h : Nat → Int32} (hk : k + 6 ≤ M) (hM : M < 2 ^ 31) : f_X0_load M M p1 p2 l h (nI k) = some (va_cpy p1 l k 0 6, va_cpy p2 h k 0 6) := by
  have hd : decide (¬ nI k < 0 ∧ ¬ (0 : Int32) < 0 ∧ ¬ (6 : Int32) < 0 ∧ (nI k).toNatClampNeg + (6 : Int32).toNatClampNeg ≤ M ∧ (0 : Int32).toNatClampNeg + (6 : Int32).toNatClampNeg ≤ 6) = true := decide_eq_true ⟨nI_pos (by omega), by decide, by decide, by rw [nI_clamp (by omega)]; exact hk, by decide⟩
  unfold f_X0_load
  rw [hd, o_ck_true, o_ck_true, nI_clamp (by omega)]
  rfl
theorem z_store {M k : Nat} {p1 p2 l h : Nat → Int32} (hk : k + 6 ≤ M) (hM : M < 2 ^ 31) : f_X0_store M M l h p1 p2 (nI k) = some (va_cpy l p1 0 k 6, va_cpy h p2 0 k 6) := by
  have hd : decide (¬ (0 : Int32) < 0 ∧ ¬ nI k < 0 ∧ ¬ (6 : Int32) < 0 ∧ (0 : Int32).toNatClampNeg + (6 : Int32).toNatClampNeg ≤ 6 ∧ (nI k).toNatClampNeg + (6 : Int32).toNatClampNeg ≤ M) = true := decide_eq_true ⟨by decide, nI_pos (by omega), by decide, by decide, by rw [nI_clamp (by omega)]; exact hk⟩
  unfold f_X0_store
  rw [hd, o_ck_true, o_ck_true, nI_clamp (by omega)]
  rfl
theorem o_b2_some {A1 A2 β : Type} (a1 : A1) (a2 : A2) (k : A1 → A2 → Option β) : o_b2 (some (a1, a2)) k = k a1 a2 := rfl
theorem o_b5_some {A1 A2 A3 A4 A5 β : Type} (a1 : A1) (a2 : A2) (a3 : A3) (a4 : A4) (a5 : A5) (k : A1 → A2 → A3 → A4 → A5 → Option β) : o_b5 (some (a1, a2, a3, a4, a5)) k = k a1 a2 a3 a4 a5 := rfl
theorem o_b7_some {A1 A2 A3 A4 A5 A6 A7 β : Type} (a1 : A1) (a2 : A2) (a3 : A3) (a4 : A4) (a5 : A5) (a6 : A6) (a7 : A7) (k : A1 → A2 → A3 → A4 → A5 → A6 → A7 → Option β) : o_b7 (some (a1, a2, a3, a4, a5, a6, a7)) k = k a1 a2 a3 a4 a5 a6 a7 := rfl
/-! the reference lays its box -/
theorem y_lowAt {all : Nat → Int32} {u : Nat} (hu : u < 6) : f_X8_lowAt all (nI u) = some (all (1 + 2 * u)) := by
  unfold f_X8_lowAt
  have e : (1 : Int32) + 2 * nI u = nI (1 + 2 * u) := by
    rw [show (1 : Int32) = nI 1 from rfl, show (2 : Int32) = nI 2 from rfl, pk_mul, nI_add]
  rw [e, o_inN (by omega) (by decide), nI_clamp (by omega)]
theorem y_highAt {all : Nat → Int32} {u : Nat} (hu : u < 6) : f_X8_highAt all (nI u) = some (all (2 + 2 * u)) := by
  unfold f_X8_highAt
  have e : (2 : Int32) + 2 * nI u = nI (2 + 2 * u) := by
    rw [show (2 : Int32) = nI 2 from rfl, pk_mul, nI_add]
  rw [e, o_inN (by omega) (by decide), nI_clamp (by omega)]
def nowB (S : mS) : aB := (sl S, sh S, false, false)
theorem lays_loop {S : mS} {N : Nat} {all : Nat → Int32} (hS : mOK S) (hR : mR S all) : ∀ (j u F : Nat) (e : Int32) (box : Nat → Int32), u + j = sn S → j < F → (∀ v, v < u → box (2 * v) = Int32.ofInt (sl S v) ∧ box (2 * v + 1) = Int32.ofInt (sh S v)) → ∃ box', f_X8_laysBox_L2 N all F e box (nI u) = some (0, box') ∧ aRw (sn S) (nowB S) 0 box' := by
  have hn := hS.1
  intro j
  induction j with
  | zero =>
    intro u F e box hu hF hb
    obtain ⟨F', rfl⟩ : ∃ F', F = F' + 1 := ⟨F - 1, by omega⟩
    refine ⟨box, ?_, rfl, fun v hv => hb v (by omega)⟩
    rw [show f_X8_laysBox_L2 N all (F' + 1) = f_X8_laysBox_C2 N all (f_X8_laysBox_L2 N all F') from rfl]
    unfold f_X8_laysBox_C2
    rw [y_unknowns hR, o_b1_some, if_pos ((nI_leI (by omega) (by omega)).mpr (by omega))]
  | succ j ih =>
    intro u F e box hu hF hb
    obtain ⟨F', rfl⟩ : ∃ F', F = F' + 1 := ⟨F - 1, by omega⟩
    have hlt : ¬ nI (sn S) ≤ nI u := fun q => by
      have := (nI_leI (by omega) (by omega)).mp q
      omega
    have hun : u < sn S := by omega
    obtain ⟨v1, v2⟩ := hR.2.2.1 u hun
    obtain ⟨box', hb1, hb2⟩ := ih (u + 1) F' e (upd (upd box (2 * u) (Int32.ofInt (sl S u))) (2 * u + 1) (Int32.ofInt (sh S u))) (by omega) (by omega) (fun v hv => by
      unfold upd
      by_cases g : v = u
      · rw [g, if_neg (by omega), if_pos rfl, if_pos rfl]
        exact ⟨rfl, rfl⟩
      · rw [if_neg (by omega), if_neg (by omega), if_neg (by omega), if_neg (by omega)]
        exact hb v (by omega))
    refine ⟨box', ?_, hb2⟩
    rw [show f_X8_laysBox_L2 N all (F' + 1) = f_X8_laysBox_C2 N all (f_X8_laysBox_L2 N all F') from rfl]
    unfold f_X8_laysBox_C2
    rw [y_unknowns hR, o_b1_some, if_neg hlt, y_lowAt (by omega), o_b1_some, v1, y_2u, o_inN (by omega) (by decide), y_highAt (by omega), o_b1_some, v2, nI_1, o_inN (by omega) (by decide), nI_clamp (by omega), nI_clamp (by omega), nI_1]
    exact hb1
theorem y_lays {S : mS} {N : Nat} {all : Nat → Int32} (hS : mOK S) (hN : 40 ≤ N) (hR : mR S all) (e : Int32) (box : Nat → Int32) : ∃ box', f_X8_laysBox N all e box = some (0, box') ∧ aRw (sn S) (nowB S) 0 box' := by
  have hn := hS.1
  exact lays_loop hS hR (sn S) 0 N e box (by omega) (by omega) (fun v hv => absurd hv (by omega))
/-! rows of boxes -/
abbrev rQ : Type := Nat → (Nat → Int) × (Nat → Int)
def rowC (n q : Nat) (Q : rQ) (lows highs : Nat → Int32) : Prop := ∀ i, i < q → ∀ u, u < n → lows (6 * i + u) = Int32.ofInt ((Q i).1 u) ∧ highs (6 * i + u) = Int32.ofInt ((Q i).2 u)
def rowR (n q : Nat) (Q : rQ) (row : Nat → Int32) : Prop := ∀ i, i < q → ∀ u, u < n → row (12 * i + 2 * u) = Int32.ofInt ((Q i).1 u) ∧ row (12 * i + 2 * u + 1) = Int32.ofInt ((Q i).2 u)
def rowOK (n q : Nat) (Q : rQ) : Prop := ∀ i, i < q → ∀ u, u < n → isP ((Q i).1 u) ∧ isP ((Q i).2 u) ∧ (Q i).1 u ≤ (Q i).2 u
def qPut (q : Nat) (L H : Nat → Int) (Q : rQ) : rQ := fun i => if i = q then (L, H) else Q i
theorem z_put {n q : Nat} {Q : rQ} {L H : Nat → Int} {bl bh lows highs : Nat → Int32} (hn : n ≤ 6) (hq : q < 61) (hb : ∀ u, u < n → bl u = Int32.ofInt (L u) ∧ bh u = Int32.ofInt (H u)) (hr : rowC n q Q lows highs) : ∃ lows' highs', f_X5_put bl bh (nI q) lows highs = some (nI (q + 1), lows', highs') ∧ rowC n (q + 1) (qPut q L H Q) lows' highs' := by
  refine ⟨va_cpy bl lows 0 (6 * q) 6, va_cpy bh highs 0 (6 * q) 6, ?_, fun i hi u hu => ?_⟩
  · unfold f_X5_put
    have : ¬ (61 : Int32) ≤ nI q := fun x => by
      have := (nI_leI (a := 61) (b := q) (by decide) (by omega)).mp x
      omega
    rw [if_neg this, show nI q * 6 = nI (6 * q) by rw [show (6 : Int32) = nI 6 from rfl, pk_mul, Nat.mul_comm], z_store (by omega) (by decide), o_b2_some, nI_1]
  · unfold qPut
    by_cases g : i = q
    · rw [if_pos g, pk_cpy_in (by omega) (by omega), pk_cpy_in (by omega) (by omega), show 0 + (6 * i + u - 6 * q) = u by omega]
      exact hb u hu
    · rw [if_neg g, pk_cpy_out (by omega), pk_cpy_out (by omega)]
      exact hr i (by omega) u hu
theorem puts_loop {N q : Nat} {box : Nat → Int32} (hq : q < 62) (x1 x2 x3 : Int32) : ∀ (j k F : Nat) (row : Nat → Int32), k + j = 12 → j < F → ∃ row', (∀ x, x < 12 * q + k → row' x = row x) ∧ (∀ x, k ≤ x → x < 12 → row' (12 * q + x) = box x) ∧ f_X8_puts_L3 N box F (nI q) row x1 x2 x3 (nI k) = f_X8_puts_C3 N box (fun _ _ _ _ _ _ => none) (nI q) row' x1 x2 x3 12 := by
  intro j
  induction j with
  | zero =>
    intro k F row hk hF
    obtain ⟨F', rfl⟩ : ∃ F', F = F' + 1 := ⟨F - 1, by omega⟩
    refine ⟨row, fun x _ => rfl, fun x h1 h2 => absurd h1 (by omega), ?_⟩
    rw [show f_X8_puts_L3 N box (F' + 1) = f_X8_puts_C3 N box (f_X8_puts_L3 N box F') from rfl, show k = 12 by omega]
    unfold f_X8_puts_C3
    rw [if_pos (show (12 : Int32) ≤ nI 12 by decide), if_pos (show (12 : Int32) ≤ 12 by decide)]
  | succ j ih =>
    intro k F row hk hF
    obtain ⟨F', rfl⟩ : ∃ F', F = F' + 1 := ⟨F - 1, by omega⟩
    obtain ⟨row', h1, h2, h3⟩ := ih (k + 1) F' (upd row (12 * q + k) (box k)) (by omega) (by omega)
    refine ⟨row', fun x hx => ?_, fun x hx1 hx2 => ?_, ?_⟩
    · rw [h1 x (by omega), pk_un (by omega)]
    · by_cases g : x = k
      · rw [g, h1 _ (by omega), pk_us]
      · exact h2 x (by omega) hx2
    · rw [← h3, show f_X8_puts_L3 N box (F' + 1) = f_X8_puts_C3 N box (f_X8_puts_L3 N box F') from rfl]
      have : ¬ (12 : Int32) ≤ nI k := fun x => by
        have := (nI_leI (a := 12) (b := k) (by decide) (by omega)).mp x
        omega
      have e : (12 : Int32) * nI q + nI k = nI (12 * q + k) := by
        rw [show (12 : Int32) = nI 12 from rfl, pk_mul, nI_add]
      conv => lhs; unfold f_X8_puts_C3
      rw [if_neg this, o_inN (by omega) (by decide), e, o_inN (by omega) (by decide), nI_clamp (by omega), nI_clamp (by omega), nI_1]
theorem y_puts0 {n N q : Nat} {Q : rQ} {L H : Nat → Int} {box row : Nat → Int32} (hN : 40 ≤ N) (hn : n ≤ 6) (hq : q < 62) (hb : ∀ u, u < n → box (2 * u) = Int32.ofInt (L u) ∧ box (2 * u + 1) = Int32.ofInt (H u)) (hr : rowR n q Q row) : ∃ row', f_X8_puts N box (nI q) row (-1) 0 0 = some (nI (q + 1), row') ∧ rowR n (q + 1) (qPut q L H Q) row' := by
  obtain ⟨row', h1, h2, h3⟩ := puts_loop (N := N) (box := box) hq (-1) 0 0 12 0 N row (by omega) (by omega)
  refine ⟨row', ?_, fun i hi u hu => ?_⟩
  · unfold f_X8_puts
    refine h3.trans ?_
    unfold f_X8_puts_C3 f_X8_puts_B78
    rw [if_pos (by decide), if_pos (by decide), nI_1]
  · unfold qPut
    by_cases g : i = q
    · rw [if_pos g, g, Nat.add_assoc, h2 _ (by omega) (by omega), h2 _ (by omega) (by omega)]
      exact hb u hu
    · rw [if_neg g, h1 _ (by omega), h1 _ (by omega)]
      exact hr i (by omega) u hu
theorem y_puts {n N q w : Nat} {Q : rQ} {L H : Nat → Int} {lo hi : Int} {box row : Nat → Int32} (hN : 40 ≤ N) (hn : n ≤ 6) (hw : w < n) (hq : q < 62) (hb : ∀ u, u < n → box (2 * u) = Int32.ofInt (L u) ∧ box (2 * u + 1) = Int32.ofInt (H u)) (hr : rowR n q Q row) : ∃ row', f_X8_puts N box (nI q) row (nI w) (Int32.ofInt lo) (Int32.ofInt hi) = some (nI (q + 1), row') ∧ rowR n (q + 1) (qPut q (iup L w lo) (iup H w hi) Q) row' := by
  obtain ⟨row', h1, h2, h3⟩ := puts_loop (N := N) (box := box) hq (nI w) (Int32.ofInt lo) (Int32.ofInt hi) 12 0 N row (by omega) (by omega)
  refine ⟨upd (upd row' (12 * q + 2 * w) (Int32.ofInt lo)) (12 * q + 2 * w + 1) (Int32.ofInt hi), ?_, fun i hi u hu => ?_⟩
  · unfold f_X8_puts
    refine h3.trans ?_
    unfold f_X8_puts_C3 f_X8_puts_B78
    have e : (12 : Int32) * nI q + 2 * nI w = nI (12 * q + 2 * w) := by
      rw [show (12 : Int32) = nI 12 from rfl, show (2 : Int32) = nI 2 from rfl, pk_mul, pk_mul, nI_add]
    rw [if_pos (by decide), if_neg (nI_pos (by omega)), e, nI_1, o_inN (by omega) (by decide), o_inN (by omega) (by decide), nI_clamp (by omega), nI_clamp (by omega), nI_1]
  · unfold qPut upd iup
    by_cases g : i = q
    · rw [if_pos g, g]
      show (if 12 * q + 2 * u = 12 * q + 2 * w + 1 then _ else _) = Int32.ofInt (if u = w then lo else L u) ∧ (if 12 * q + 2 * u + 1 = 12 * q + 2 * w + 1 then _ else _) = Int32.ofInt (if u = w then _ else H u)
      by_cases g2 : u = w
      · rw [if_neg (by omega), if_pos (by omega), if_pos g2, if_pos (by omega), if_pos g2]
        exact ⟨rfl, rfl⟩
      · rw [if_neg (by omega), if_neg (by omega), if_neg g2, if_neg (by omega), if_neg (by omega), if_neg g2, Nat.add_assoc, h2 _ (by omega) (by omega), h2 _ (by omega) (by omega)]
        exact hb u hu
    · rw [if_neg g, if_neg (by omega), if_neg (by omega), if_neg (by omega), if_neg (by omega), h1 _ (by omega), h1 _ (by omega)]
      exact hr i (by omega) u hu
theorem takes_loop {N q : Nat} {all : Nat → Int32} (hq : q < 62) (e c t f : Int32) (row : Nat → Int32) : ∀ (j k F : Nat) (box : Nat → Int32), k + j = 12 → j < F → ∃ box', (∀ x, x < k → box' x = box x) ∧ (∀ x, k ≤ x → x < 12 → box' x = row (12 * q + x)) ∧ f_X8_takesBox_L22 N all F e c (nI q) t f box row (nI k) = f_X8_takesBox_C22 N all (fun _ _ _ _ _ _ _ _ => none) e c (nI q) t f box' row 12 := by
  intro j
  induction j with
  | zero =>
    intro k F box hk hF
    obtain ⟨F', rfl⟩ : ∃ F', F = F' + 1 := ⟨F - 1, by omega⟩
    refine ⟨box, fun x _ => rfl, fun x h1 h2 => absurd h1 (by omega), ?_⟩
    rw [show f_X8_takesBox_L22 N all (F' + 1) = f_X8_takesBox_C22 N all (f_X8_takesBox_L22 N all F') from rfl, show k = 12 by omega]
    unfold f_X8_takesBox_C22
    rw [if_pos (by decide), if_pos (by decide)]
  | succ j ih =>
    intro k F box hk hF
    obtain ⟨F', rfl⟩ : ∃ F', F = F' + 1 := ⟨F - 1, by omega⟩
    obtain ⟨box', h1, h2, h3⟩ := ih (k + 1) F' (upd box k (row (12 * q + k))) (by omega) (by omega)
    refine ⟨box', fun x hx => ?_, fun x hx1 hx2 => ?_, ?_⟩
    · rw [h1 x (by omega), pk_un (by omega)]
    · by_cases g : x = k
      · rw [g, h1 _ (by omega), pk_us]
      · exact h2 x (by omega) hx2
    · rw [← h3, show f_X8_takesBox_L22 N all (F' + 1) = f_X8_takesBox_C22 N all (f_X8_takesBox_L22 N all F') from rfl]
      have : ¬ (12 : Int32) ≤ nI k := fun x => by
        have := (nI_leI (a := 12) (b := k) (by decide) (by omega)).mp x
        omega
      have e' : (12 : Int32) * nI q + nI k = nI (12 * q + k) := by
        rw [show (12 : Int32) = nI 12 from rfl, pk_mul, nI_add]
      conv => lhs; unfold f_X8_takesBox_C22
      rw [if_neg this, e', o_inN (by omega) (by decide), o_inN (by omega) (by decide), nI_clamp (by omega), nI_clamp (by omega), nI_1]
