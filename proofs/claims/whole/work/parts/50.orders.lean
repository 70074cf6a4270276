/-! ===== orders read by both; the chain of orders ===== -/
def isLet (c : Int32) : Prop := c = 117 ∨ c = 107 ∨ c = 99 ∨ c = 120
section text
variable {N tn : Nat} {tb : Nat → Int32}
theorem order_loop (h120 : tn ≤ 120) (hN : 200 ≤ N) {c : Int32} {m : Nat} (hm : m ≤ 4) : ∀ (j k F a : Nat), k + j = m → j < F → a ≤ tn → ∃ (r : Int32) (a1 : Nat) (vals : Nat → Int32), (r = 0 ∨ r = 1) ∧ a ≤ a1 ∧ a1 ≤ tn ∧ (r = 1 → a + 1 ≤ a1) ∧
    (∀ (o : Nat) (letter number : Nat → Int32), o < 60 → ∃ number' : Nat → Int32, f_X6_readOrder_L38 N (nI tn) (nI o) tb F (nI a) letter number c (nI m) (nI k) = some (r, nI a1, letter, number') ∧ (∀ i, i < 4 * o + k → number' i = number i) ∧ (r = 1 → ∀ i, k ≤ i → i < m → number' (4 * o + i) = vals i)) ∧
    (∀ numbers : Nat → Int32, ∃ numbers' : Nat → Int32, (∀ i, i < k → numbers' i = numbers i) ∧ (r = 1 → ∀ i, k ≤ i → i < m → numbers' i = vals i) ∧
      (∀ (e cu st : Int32) (all box : Nat → Int32), f_X8_readsOrder_L29 N (nI tn) tb F e cu (nI a) st all box numbers 0 c (nI m) (nI k) = some (r, e, cu, nI a1, st, all, box, numbers')) ∧
      (r = 1 → ∀ (e cu st : Int32) (all box : Nat → Int32), f_X8_readsOrder_L29 N (nI tn) tb F e cu (nI a) st all box numbers 1 c (nI m) (nI k) = o_b5 (f_X8_does_ N numbers' e cu st all box c) (fun e' cu' st' all' box' => some (1, e', cu', nI a1, st', all', box', numbers')))) := by
  intro j
  induction j with
  | zero =>
    intro k F a hk hF ha
    obtain ⟨F', rfl⟩ : ∃ F', F = F' + 1 := ⟨F - 1, by omega⟩
    obtain ⟨a1, s1, s2, s3, s4, s5⟩ := skip_both (N := N) (tb := tb) h120 hN ha
    have hle : nI m ≤ nI k := (nI_leI (by omega) (by omega)).mpr (by omega)
    have cl : ∀ (o : Nat) (letter number : Nat → Int32), f_X6_readOrder_L38 N (nI tn) (nI o) tb (F' + 1) (nI a) letter number c (nI m) (nI k) = if pkv tn tb a1 = 59 then some (1, nI a1 + 1, letter, number) else some (0, nI a1, letter, number) := fun o letter number => by
      show f_X6_readOrder_C38 N (nI tn) (nI o) tb (f_X6_readOrder_L38 N (nI tn) (nI o) tb F') (nI a) letter number c (nI m) (nI k) = _
      unfold f_X6_readOrder_C38
      rw [if_pos hle, s3, o_b1_some, peek_at h120 s2, o_b1_some]
    have rf : ∀ (numbers : Nat → Int32) (e cu st x : Int32) (all box : Nat → Int32), f_X8_readsOrder_L29 N (nI tn) tb (F' + 1) e cu (nI a) st all box numbers x c (nI m) (nI k) = if pkv tn tb a1 = 59 then (if x = 0 then some (1, e, cu, nI a1 + 1, st, all, box, numbers) else o_b5 (f_X8_does_ N numbers e cu st all box c) (fun e' cu' st' all' box' => some (1, e', cu', nI a1 + 1, st', all', box', numbers))) else some (0, e, cu, nI a1, st, all, box, numbers) := fun numbers e cu st x all box => by
      show f_X8_readsOrder_C29 N (nI tn) tb (f_X8_readsOrder_L29 N (nI tn) tb F') e cu (nI a) st all box numbers x c (nI m) (nI k) = _
      unfold f_X8_readsOrder_C29
      rw [if_pos hle, s4, o_b2_some]
    by_cases g : pkv tn tb a1 = 59
    · have hlt : a1 < tn := by
        by_cases q : a1 < tn
        · exact q
        · rw [pkv_out q] at g
          exact absurd g (by decide)
      refine ⟨1, a1 + 1, fun _ => 0, Or.inr rfl, by omega, by omega, fun _ => by omega, fun o letter number ho => ⟨number, ?_, fun i _ => rfl, fun _ i h1 h2 => absurd h2 (by omega)⟩, fun numbers => ⟨numbers, fun i _ => rfl, fun _ i h1 h2 => absurd h2 (by omega), fun e cu st all box => ?_, fun _ e cu st all box => ?_⟩⟩
      · rw [cl, if_pos g, nI_1]
      · rw [rf, if_pos g, if_pos rfl, nI_1]
      · rw [rf, if_pos g, if_neg (by decide), nI_1]
    · refine ⟨0, a1, fun _ => 0, Or.inl rfl, by omega, by omega, fun q => absurd q (by decide), fun o letter number ho => ⟨number, ?_, fun i _ => rfl, fun q => absurd q (by decide)⟩, fun numbers => ⟨numbers, fun i _ => rfl, fun q => absurd q (by decide), fun e cu st all box => ?_, fun q => absurd q (by decide)⟩⟩
      · rw [cl, if_neg g]
      · rw [rf, if_neg g]
  | succ j ih =>
    intro k F a hk hF ha
    obtain ⟨F', rfl⟩ : ∃ F', F = F' + 1 := ⟨F - 1, by omega⟩
    have hle : ¬ nI m ≤ nI k := fun q => by
      have := (nI_leI (a := m) (b := k) (by omega) (by omega)).mp q
      omega
    obtain ⟨a1, a2, r0, v, n1, n2, n3, n4, n5, n6, n7⟩ := num_both (N := N) (tb := tb) (sg := if c = 117 then 1 else 0) h120 hN ha (by split <;> simp)
    have cl : ∀ (o : Nat) (letter number : Nat → Int32), o < 60 → f_X6_readOrder_L38 N (nI tn) (nI o) tb (F' + 1) (nI a) letter number c (nI m) (nI k) = if r0 = 0 then some (0, nI a2, letter, upd number (4 * o + k) v) else f_X6_readOrder_L38 N (nI tn) (nI o) tb F' (nI a2) letter (upd number (4 * o + k) v) c (nI m) (nI (k + 1)) := fun o letter number ho => by
      show f_X6_readOrder_C38 N (nI tn) (nI o) tb (f_X6_readOrder_L38 N (nI tn) (nI o) tb F') (nI a) letter number c (nI m) (nI k) = _
      have hs : nI o * 4 + nI k = nI (4 * o + k) := by
        rw [show (4 : Int32) = nI 4 from rfl, pk_mul, nI_add]
        exact congrArg nI (by omega)
      have h67 : ∀ sg : Int32, sg = (if c = 117 then 1 else 0) → f_X6_readOrder_B67 N (nI tn) (nI o) tb (f_X6_readOrder_L38 N (nI tn) (nI o) tb F') (nI a1) letter number c (nI m) (nI k) (nI (4 * o + k)) sg = if r0 = 0 then some (0, nI a2, letter, upd number (4 * o + k) v) else f_X6_readOrder_L38 N (nI tn) (nI o) tb F' (nI a2) letter (upd number (4 * o + k) v) c (nI m) (nI (k + 1)) := fun sg hsg => by
        unfold f_X6_readOrder_B67
        rw [hsg, n6 number (4 * o + k) (by omega), o_b3_some, nI_1]
      unfold f_X6_readOrder_C38
      rw [if_neg hle, n5, o_b1_some, hs]
      by_cases g : c = 117
      · rw [if_pos g]
        exact h67 1 (by rw [if_pos g])
      · rw [if_neg g]
        exact h67 0 (by rw [if_neg g])
    have rf : ∀ (numbers : Nat → Int32) (e cu st x : Int32) (all box : Nat → Int32), f_X8_readsOrder_L29 N (nI tn) tb (F' + 1) e cu (nI a) st all box numbers x c (nI m) (nI k) = if r0 = 0 then some (0, e, cu, nI a2, st, all, box, upd numbers k v) else f_X8_readsOrder_L29 N (nI tn) tb F' e cu (nI a2) st all box (upd numbers k v) x c (nI m) (nI (k + 1)) := fun numbers e cu st x all box => by
      show f_X8_readsOrder_C29 N (nI tn) tb (f_X8_readsOrder_L29 N (nI tn) tb F') e cu (nI a) st all box numbers x c (nI m) (nI k) = _
      have h49 : ∀ sg : Int32, sg = (if c = 117 then 1 else 0) → f_X8_readsOrder_B49 N (nI tn) tb (f_X8_readsOrder_L29 N (nI tn) tb F') e cu (nI a) st all box numbers x c (nI m) (nI k) (nI k) sg = if r0 = 0 then some (0, e, cu, nI a2, st, all, box, upd numbers k v) else f_X8_readsOrder_L29 N (nI tn) tb F' e cu (nI a2) st all box (upd numbers k v) x c (nI m) (nI (k + 1)) := fun sg hsg => by
        unfold f_X8_readsOrder_B49
        rw [hsg, n7 numbers k (by omega), o_b3_some, nI_1]
      unfold f_X8_readsOrder_C29
      rw [if_neg hle]
      by_cases g : c = 117
      · rw [if_pos g]
        exact h49 1 (by rw [if_pos g])
      · rw [if_neg g]
        exact h49 0 (by rw [if_neg g])
    rcases n4 with h0 | h0
    · refine ⟨0, a2, fun _ => 0, Or.inl rfl, by omega, by omega, fun q => absurd q (by decide), fun o letter number ho => ⟨upd number (4 * o + k) v, ?_, fun i hi => pk_un (by omega), fun q => absurd q (by decide)⟩, fun numbers => ⟨upd numbers k v, fun i hi => pk_un (by omega), fun q => absurd q (by decide), fun e cu st all box => ?_, fun q => absurd q (by decide)⟩⟩
      · rw [cl o letter number ho, if_pos h0]
      · rw [rf, if_pos h0]
    · obtain ⟨r, a3, vals, e1, e2, e3, e4, e5, e6⟩ := ih (k + 1) F' a2 (by omega) (by omega) n3
      have h01 : ¬ r0 = 0 := by rw [h0]; decide
      refine ⟨r, a3, fun i => if i = k then v else vals i, e1, by omega, e3, fun q => by have := e4 q; omega, fun o letter number ho => ?_, fun numbers => ?_⟩
      · obtain ⟨number', f1, f2, f3⟩ := e5 o letter (upd number (4 * o + k) v) ho
        refine ⟨number', ?_, fun i hi => ?_, fun q i h1 h2 => ?_⟩
        · rw [cl o letter number ho, if_neg h01]
          exact f1
        · rw [f2 i (by omega), pk_un (by omega)]
        · dsimp only
          by_cases g : i = k
          · rw [if_pos g, g, f2 _ (by omega), pk_us]
          · rw [if_neg g]
            exact f3 q i (by omega) h2
      · obtain ⟨numbers', f1, f2, f3, f4⟩ := e6 (upd numbers k v)
        refine ⟨numbers', fun i hi => ?_, fun q i h1 h2 => ?_, fun e cu st all box => ?_, fun q e cu st all box => ?_⟩
        · rw [f1 i (by omega), pk_un (by omega)]
        · dsimp only
          by_cases g : i = k
          · rw [if_pos g, g, f1 _ (by omega), pk_us]
          · rw [if_neg g]
            exact f2 q i (by omega) h2
        · rw [rf, if_neg h01]
          exact f3 e cu st all box
        · rw [rf, if_neg h01]
          exact f4 q e cu st all box
theorem nums_both {c : Int32} (h : isLet c) : nums c ≤ 4 ∧ f_X6_numbersOf c = some (nI (nums c)) ∧ f_X8_numbersOf c = some (nI (nums c)) := by
  rcases h with rfl | rfl | rfl | rfl
  · exact ⟨by decide, rfl, rfl⟩
  · exact ⟨by decide, rfl, rfl⟩
  · exact ⟨by decide, rfl, rfl⟩
  · exact ⟨by decide, rfl, rfl⟩
theorem nums_none {c : Int32} (h : ¬ isLet c) : f_X6_numbersOf c = some (-1) ∧ f_X8_numbersOf c = some (-1) := by
  have h1 : ¬ c = 117 := fun q => h (Or.inl q)
  have h2 : ¬ c = 107 := fun q => h (Or.inr (Or.inl q))
  have h3 : ¬ c = 99 := fun q => h (Or.inr (Or.inr (Or.inl q)))
  have h4 : ¬ c = 120 := fun q => h (Or.inr (Or.inr (Or.inr q)))
  unfold f_X6_numbersOf f_X8_numbersOf
  constructor
  · rw [if_neg h3, if_neg h2, if_neg h1, if_neg h4]
  · rw [if_neg h1, if_neg h2, if_neg h3, if_neg h4]
theorem let_lt {a : Nat} (h : isLet (pkv tn tb a)) : a < tn := by
  by_cases q : a < tn
  · exact q
  · rw [pkv_out q] at h
    rcases h with h | h | h | h <;> exact absurd h (by decide)
/-- an order that the reference does: its letter, its numbers, the place behind it -/
def ordR (N tn : Nat) (tb : Nat → Int32) (a a1 : Nat) (c : Int32) (vals : Nat → Int32) : Prop := isLet c ∧ a1 ≤ tn ∧ ∀ numbers : Nat → Int32, ∃ numbers' : Nat → Int32, (∀ i, i < nums c → numbers' i = vals i) ∧ ∀ (e cu st : Int32) (all box : Nat → Int32), f_X8_readsOrder N (nI tn) tb e cu (nI a) st all box numbers 1 = o_b5 (f_X8_does_ N numbers' e cu st all box c) (fun e' cu' st' all' box' => some (1, e', cu', nI a1, st', all', box', numbers'))
theorem ordR_congr {a a1 : Nat} {c c' : Int32} {vals vals' : Nat → Int32} (h : ordR N tn tb a a1 c vals) (hc : c' = c) (hv : ∀ i, i < nums c → vals' i = vals i) : ordR N tn tb a a1 c' vals' := by
  subst hc
  obtain ⟨h1, h2, h3⟩ := h
  refine ⟨h1, h2, fun numbers => ?_⟩
  obtain ⟨numbers', f1, f2⟩ := h3 numbers
  exact ⟨numbers', fun i hi => by rw [f1 i hi, hv i hi], f2⟩
theorem order_both (h120 : tn ≤ 120) (hN : 200 ≤ N) {a0 : Nat} (ha : a0 ≤ tn) (hh : f_X8_here N (nI tn) tb (nI a0) = some (pkv tn tb a0, nI a0)) : ∃ (r : Int32) (a1 : Nat) (vals : Nat → Int32), (r = 0 ∨ r = 1) ∧ a0 ≤ a1 ∧ a1 ≤ tn ∧ (r = 1 → a0 + 2 ≤ a1 ∧ ordR N tn tb a0 a1 (pkv tn tb a0) vals) ∧
    (∀ (o : Nat) (letter number : Nat → Int32), o < 60 → ∃ letter' number' : Nat → Int32, f_X6_readOrder N (nI tn) (nI o) tb (nI a0) letter number = some (r, nI a1, letter', number') ∧ (∀ i, i < o → letter' i = letter i) ∧ (∀ i, i < 4 * o → number' i = number i) ∧ (r = 1 → letter' o = pkv tn tb a0 ∧ ∀ i, i < nums (pkv tn tb a0) → number' (4 * o + i) = vals i)) ∧
    (∀ numbers : Nat → Int32, ∃ numbers' : Nat → Int32, ∀ (e cu st : Int32) (all box : Nat → Int32), f_X8_readsOrder N (nI tn) tb e cu (nI a0) st all box numbers 0 = some (r, e, cu, nI a1, st, all, box, numbers')) := by
  by_cases g : isLet (pkv tn tb a0)
  · have hlt := let_lt g
    obtain ⟨m4, mc, mr⟩ := nums_both g
    obtain ⟨r, a1, vals, e1, e2, e3, e4, e5, e6⟩ := order_loop (N := N) (tb := tb) (c := pkv tn tb a0) h120 hN m4 (nums (pkv tn tb a0)) 0 N (a0 + 1) (by omega) (by omega) (by omega)
    have h0 : (0 : Int32) ≤ nI (nums (pkv tn tb a0)) := (nI_leI (a := 0) (by decide) (by omega)).mpr (by omega)
    refine ⟨r, a1, vals, e1, by omega, e3, fun q => ⟨by have := e4 q; omega, g, e3, fun numbers => ?_⟩, fun o letter number ho => ?_, fun numbers => ?_⟩
    · obtain ⟨numbers', f1, f2, f3, f4⟩ := e6 numbers
      refine ⟨numbers', fun i hi => f2 q i (by omega) hi, fun e cu st all box => ?_⟩
      unfold f_X8_readsOrder
      rw [hh, o_b2_some, mr, o_b1_some, if_pos h0, nI_1]
      exact f4 q e cu st all box
    · obtain ⟨number', f1, f2, f3⟩ := e5 o (upd letter o (pkv tn tb a0)) number ho
      refine ⟨upd letter o (pkv tn tb a0), number', ?_, fun i hi => pk_un (by omega), fun i hi => f2 i (by omega), fun q => ⟨pk_us, fun i hi => f3 q i (by omega) hi⟩⟩
      unfold f_X6_readOrder
      rw [peek_at h120 ha, o_b1_some, mc, o_b1_some, if_pos h0, o_inN ho (by decide), nI_clamp (by omega), nI_1]
      exact f1
    · obtain ⟨numbers', f1, f2, f3, f4⟩ := e6 numbers
      refine ⟨numbers', fun e cu st all box => ?_⟩
      unfold f_X8_readsOrder
      rw [hh, o_b2_some, mr, o_b1_some, if_pos h0, nI_1]
      exact f3 e cu st all box
  · obtain ⟨mc, mr⟩ := nums_none g
    refine ⟨0, a0, fun _ => 0, Or.inl rfl, Nat.le_refl _, ha, fun q => absurd q (by decide), fun o letter number ho => ⟨letter, number, ?_, fun i _ => rfl, fun i _ => rfl, fun q => absurd q (by decide)⟩, fun numbers => ⟨numbers, fun e cu st all box => ?_⟩⟩
    · unfold f_X6_readOrder
      rw [peek_at h120 ha, o_b1_some, mc, o_b1_some, if_neg (by decide)]
    · unfold f_X8_readsOrder
      rw [hh, o_b2_some, mr, o_b1_some, if_neg (by decide)]
/-- n orders stand from place a on, the first of them being the i-th, and nothing but blanks behind them -/
def chn (N tn : Nat) (tb : Nat → Int32) (L M : Nat → Int32) : Nat → Nat → Nat → Prop
  | 0, _, a => a = tn
  | j + 1, i, a => a < tn ∧ ∃ a1 a2, ordR N tn tb a a1 (L i) (fun x => M (4 * i + x)) ∧ f_X8_here N (nI tn) tb (nI a1) = some (pkv tn tb a2, nI a2) ∧ a2 ≤ tn ∧ chn N tn tb L M j (i + 1) a2
theorem pkv_m1 (htb : ∀ i, i < tn → 0 ≤ (tb i).toInt ∧ (tb i).toInt ≤ 127) {a : Nat} (g : a < tn) : ¬ pkv tn tb a = -1 := fun q => by
  have h := (htb a g).1
  rw [← pkv_in (tb := tb) g, q] at h
  exact absurd h (by decide)
theorem bI_01 {r : Int32} (h : r = 0 ∨ r = 1) : ∃ b : Bool, r = bI b := by
  rcases h with h | h
  · exact ⟨false, h⟩
  · exact ⟨true, h⟩
/-- what the parse of both says from an order on -/
def pcl (N tn : Nat) (tb : Nat → Int32) (o a0 F F' : Nat) : Prop := ∃ (ok : Bool) (n a1 : Nat), a1 ≤ tn ∧ o + n ≤ 60 ∧
    (∀ letter number : Nat → Int32, ∃ letter' number' : Nat → Int32, f_X6_parse_L14 N (nI tn) tb F (nI a0) (nI o) letter number = some (bI ok, nI a1, nI (o + n), letter', number') ∧ (∀ i, i < o → letter' i = letter i) ∧ (∀ i, i < 4 * o → number' i = number i) ∧ (ok = true → chn N tn tb letter' number' n o a0)) ∧
    (∀ (numbers before past : Nat → Int32) (states e cu st : Int32) (all box : Nat → Int32), ∃ numbers' : Nat → Int32, o_b8 (f_X8_readsOrder N (nI tn) tb e cu (nI a0) st all box numbers 0) (fun (r25 : Int32) (v_empty_25 : Int32) (v_cut_25 : Int32) (v_at_25 : Int32) (v_stopped_25 : Int32) (v_all_25 : Nat → Int32) (v_box_25 : Nat → Int32) (v_numbers_25 : Nat → Int32) => f_X8_reads_L11 N (nI tn) tb F' states v_empty_25 v_cut_25 v_at_25 v_stopped_25 v_all_25 v_box_25 v_numbers_25 before past r25) = if ok = true then f_X8_reads_L46 N (nI tn) tb N states e cu (nI a1) st all box numbers' before past 0 else some ((-10) - nI a1, states, e, cu, nI a1, st, all, box, numbers', before, past))
theorem pcl_step (h120 : tn ≤ 120) (hN : 200 ≤ N) (htb : ∀ i, i < tn → 0 ≤ (tb i).toInt ∧ (tb i).toInt ≤ 127) {o a0 F F' : Nat} (ha : a0 ≤ tn) (ho : 2 * o ≤ a0) (hlt : a0 < tn ∨ o = 0) (hh : f_X8_here N (nI tn) tb (nI a0) = some (pkv tn tb a0, nI a0)) (ih : ∀ a2, a0 + 2 ≤ a2 → a2 < tn → f_X8_here N (nI tn) tb (nI a2) = some (pkv tn tb a2, nI a2) → pcl N tn tb (o + 1) a2 F F') : pcl N tn tb o a0 (F + 1) (F' + 1) := by
  have ho60 : o < 60 := by omega
  obtain ⟨r, a1, vals, e1, e2, e3, e4, e5, e6⟩ := order_both (N := N) (tb := tb) h120 hN ha hh
  have h60 : ¬ (60 : Int32) ≤ nI o := fun q => by
    have := (nI_leI (a := 60) (b := o) (by decide) (by omega)).mp q
    omega
  rcases e1 with rfl | rfl
  · refine ⟨false, 0, a1, e3, by omega, fun letter number => ?_, fun numbers before past states e cu st all box => ?_⟩
    · obtain ⟨letter', number', f1, f2, f3, f4⟩ := e5 o letter number ho60
      refine ⟨letter', number', ?_, f2, f3, fun q => by cases q⟩
      show f_X6_parse_C14 N (nI tn) tb (f_X6_parse_L14 N (nI tn) tb F) (nI a0) (nI o) letter number = _
      unfold f_X6_parse_C14
      rw [if_neg h60, f1, o_b4_some, if_pos rfl]
      rfl
    · obtain ⟨numbers', f1⟩ := e6 numbers
      refine ⟨numbers', ?_⟩
      rw [f1, o_b8_some, if_neg (by decide)]
      show f_X8_reads_C11 N (nI tn) tb (f_X8_reads_L11 N (nI tn) tb F') states e cu (nI a1) st all box numbers' before past 0 = _
      unfold f_X8_reads_C11 f_X8_reads_B32
      rw [if_pos rfl, if_pos rfl]
  · obtain ⟨e7, e8⟩ := e4 rfl
    obtain ⟨a2, s1, s2, s3, s4, s5⟩ := skip_both (N := N) (tb := tb) h120 hN e3
    have cl : ∀ letter number : Nat → Int32, ∃ letter' number' : Nat → Int32, (∀ i, i < o → letter' i = letter i) ∧ (∀ i, i < 4 * o → number' i = number i) ∧ letter' o = pkv tn tb a0 ∧ (∀ i, i < nums (pkv tn tb a0) → number' (4 * o + i) = vals i) ∧ f_X6_parse_L14 N (nI tn) tb (F + 1) (nI a0) (nI o) letter number = if nI a2 < nI tn then f_X6_parse_L14 N (nI tn) tb F (nI a2) (nI (o + 1)) letter' number' else some (1, nI a2, nI (o + 1), letter', number') := fun letter number => by
      obtain ⟨letter', number', f1, f2, f3, f4⟩ := e5 o letter number ho60
      refine ⟨letter', number', f2, f3, (f4 rfl).1, (f4 rfl).2, ?_⟩
      show f_X6_parse_C14 N (nI tn) tb (f_X6_parse_L14 N (nI tn) tb F) (nI a0) (nI o) letter number = _
      unfold f_X6_parse_C14
      rw [if_neg h60, f1, o_b4_some, if_neg (by decide), s3, o_b1_some, nI_1]
    have rf : ∀ (numbers before past : Nat → Int32) (states e cu st : Int32) (all box : Nat → Int32), ∃ numbers' : Nat → Int32, o_b8 (f_X8_readsOrder N (nI tn) tb e cu (nI a0) st all box numbers 0) (fun (r25 : Int32) (v_empty_25 : Int32) (v_cut_25 : Int32) (v_at_25 : Int32) (v_stopped_25 : Int32) (v_all_25 : Nat → Int32) (v_box_25 : Nat → Int32) (v_numbers_25 : Nat → Int32) => f_X8_reads_L11 N (nI tn) tb (F' + 1) states v_empty_25 v_cut_25 v_at_25 v_stopped_25 v_all_25 v_box_25 v_numbers_25 before past r25) = if pkv tn tb a2 = -1 then f_X8_reads_L46 N (nI tn) tb N states e cu (nI a2) st all box numbers' before past 0 else o_b8 (f_X8_readsOrder N (nI tn) tb e cu (nI a2) st all box numbers' 0) (fun (r25 : Int32) (v_empty_25 : Int32) (v_cut_25 : Int32) (v_at_25 : Int32) (v_stopped_25 : Int32) (v_all_25 : Nat → Int32) (v_box_25 : Nat → Int32) (v_numbers_25 : Nat → Int32) => f_X8_reads_L11 N (nI tn) tb F' states v_empty_25 v_cut_25 v_at_25 v_stopped_25 v_all_25 v_box_25 v_numbers_25 before past r25) := fun numbers before past states e cu st all box => by
      obtain ⟨numbers', f1⟩ := e6 numbers
      refine ⟨numbers', ?_⟩
      rw [f1, o_b8_some]
      show f_X8_reads_C11 N (nI tn) tb (f_X8_reads_L11 N (nI tn) tb F') states e cu (nI a1) st all box numbers' before past 1 = _
      unfold f_X8_reads_C11 f_X8_reads_B32
      rw [if_neg (show ¬ (1 : Int32) = 0 by decide), s4, o_b2_some, if_neg (show ¬ (1 : Int32) = 0 by decide)]
    have hord : ∀ letter' number' : Nat → Int32, letter' o = pkv tn tb a0 → (∀ i, i < nums (pkv tn tb a0) → number' (4 * o + i) = vals i) → ordR N tn tb a0 a1 (letter' o) (fun x => number' (4 * o + x)) := fun letter' number' h1 h2 => ordR_congr e8 h1 h2
    by_cases g : a2 < tn
    · obtain ⟨ok, n, a3, p1, p2, p3, p4⟩ := ih a2 (by omega) g s5
      refine ⟨ok, n + 1, a3, p1, by omega, fun letter number => ?_, fun numbers before past states e cu st all box => ?_⟩
      · obtain ⟨l1, m1, c1, c2, c3, c4, c5⟩ := cl letter number
        obtain ⟨l2, m2, d1, d2, d3, d4⟩ := p3 l1 m1
        refine ⟨l2, m2, ?_, fun i hi => ?_, fun i hi => ?_, fun q => ⟨by omega, a1, a2, ?_, s4, s2, d4 q⟩⟩
        · rw [c5, if_pos ((nI_ltI (by omega) (by omega)).mpr g), d1, show o + 1 + n = o + (n + 1) by omega]
        · rw [d2 i (by omega), c1 i hi]
        · rw [d3 i (by omega), c2 i hi]
        · have hn4 := (nums_both e8.1).1
          exact hord l2 m2 (by rw [d2 o (by omega), c3]) (fun i hi => by rw [d3 _ (by omega), c4 i hi])
      · obtain ⟨n1, q1⟩ := rf numbers before past states e cu st all box
        obtain ⟨n2, q2⟩ := p4 n1 before past states e cu st all box
        have h1 : ¬ pkv tn tb a2 = -1 := pkv_m1 htb g
        refine ⟨n2, ?_⟩
        rw [q1, if_neg h1]
        exact q2
    · refine ⟨true, 1, a2, s2, by omega, fun letter number => ?_, fun numbers before past states e cu st all box => ?_⟩
      · obtain ⟨l1, m1, c1, c2, c3, c4, c5⟩ := cl letter number
        refine ⟨l1, m1, ?_, c1, c2, fun q => ⟨by have := let_lt e8.1; omega, a1, a2, hord l1 m1 c3 c4, s4, s2, by show a2 = tn; omega⟩⟩
        rw [c5, if_neg (fun q => g ((nI_ltI (by omega) (by omega)).mp q))]
        rfl
      · obtain ⟨n1, q1⟩ := rf numbers before past states e cu st all box
        refine ⟨n1, ?_⟩
        rw [q1, if_pos (pkv_out g), if_pos rfl]
theorem pcl_all (h120 : tn ≤ 120) (hN : 200 ≤ N) (htb : ∀ i, i < tn → 0 ≤ (tb i).toInt ∧ (tb i).toInt ≤ 127) : ∀ (j o a0 F F' : Nat), tn - a0 ≤ j → j < F → j < F' → a0 ≤ tn → 2 * o ≤ a0 → (a0 < tn ∨ o = 0) → f_X8_here N (nI tn) tb (nI a0) = some (pkv tn tb a0, nI a0) → pcl N tn tb o a0 F F' := by
  intro j
  induction j with
  | zero =>
    intro o a0 F F' h1 h2 h3 h4 h5 h6 h7
    obtain ⟨G, rfl⟩ : ∃ G, F = G + 1 := ⟨F - 1, by omega⟩
    obtain ⟨G', rfl⟩ : ∃ G', F' = G' + 1 := ⟨F' - 1, by omega⟩
    exact pcl_step h120 hN htb h4 h5 h6 h7 (fun a2 q1 q2 => absurd q2 (by omega))
  | succ j ih =>
    intro o a0 F F' h1 h2 h3 h4 h5 h6 h7
    obtain ⟨G, rfl⟩ : ∃ G, F = G + 1 := ⟨F - 1, by omega⟩
    obtain ⟨G', rfl⟩ : ∃ G', F' = G' + 1 := ⟨F' - 1, by omega⟩
    exact pcl_step h120 hN htb h4 h5 h6 h7 (fun a2 q1 q2 q3 => ih (o + 1) a2 G G' (by omega) (by omega) (by omega) (by omega) (by omega) (Or.inl q2) q3)
end text
