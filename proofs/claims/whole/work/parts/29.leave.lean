/-! ===== boxes: ranges of unknowns, cut; the class's 'leave' and the reference's 'keeps' ===== -/
abbrev aB : Type := (Nat → Int) × (Nat → Int) × Bool × Bool
def iup (f : Nat → Int) (k : Nat) (x : Int) : Nat → Int := fun j => if j = k then x else f j
def aLeave (u : Nat) (f t : Int) (B : aB) : aB :=
  if B.2.2.2 = true then B
  else if max (B.1 u) f ≤ min (B.2.1 u) t then (iup B.1 u (max (B.1 u) f), iup B.2.1 u (min (B.2.1 u) t), B.2.2.1 || decide (¬ max (B.1 u) f = B.1 u) || decide (¬ min (B.2.1 u) t = B.2.1 u), false)
  else (B.1, B.2.1, B.2.2.1, true)
def bI (b : Bool) : Int32 := if b = true then 1 else 0
def aOK (n : Nat) (B : aB) : Prop := ∀ u, u < n → isP (B.1 u) ∧ isP (B.2.1 u) ∧ B.1 u ≤ B.2.1 u
def aC (n : Nat) (B : aB) (cut empty : Int32) (vl vh : Nat → Int32) : Prop := cut = bI B.2.2.1 ∧ empty = bI B.2.2.2 ∧ ∀ u, u < n → vl u = Int32.ofInt (B.1 u) ∧ vh u = Int32.ofInt (B.2.1 u)
def aR (n : Nat) (B : aB) (empty cut : Int32) (box : Nat → Int32) : Prop := cut = bI B.2.2.1 ∧ empty = bI B.2.2.2 ∧ ∀ u, u < n → box (2 * u) = Int32.ofInt (B.1 u) ∧ box (2 * u + 1) = Int32.ofInt (B.2.1 u)
theorem bI_0 {b : Bool} : bI b = 0 ↔ b = false := by cases b <;> decide
theorem bI_zb (b : Bool) : o_zb (bI b) = true := by cases b <;> decide
theorem aLeave_ok {n u : Nat} {f t : Int} {B : aB} (h : aOK n B) : aOK n (aLeave u f t B) := by
  unfold aLeave
  split
  · exact h
  · split
    · rename_i h1
      intro v hv
      have hv' := h v hv
      show isP (iup B.1 u (max (B.1 u) f) v) ∧ isP (iup B.2.1 u (min (B.2.1 u) t) v) ∧ iup B.1 u (max (B.1 u) f) v ≤ iup B.2.1 u (min (B.2.1 u) t) v
      unfold iup
      by_cases e : v = u
      · subst e
        rw [if_pos rfl, if_pos rfl]
        unfold isP at *
        omega
      · rw [if_neg e, if_neg e]
        exact hv'
    · exact h
/-- only what is left counts -/
theorem aLeave_congr {u : Nat} {f t f' t' : Int} {B : aB} (h1 : max (B.1 u) f ≤ min (B.2.1 u) t ↔ max (B.1 u) f' ≤ min (B.2.1 u) t') (h2 : max (B.1 u) f ≤ min (B.2.1 u) t → max (B.1 u) f = max (B.1 u) f' ∧ min (B.2.1 u) t = min (B.2.1 u) t') : aLeave u f t B = aLeave u f' t' B := by
  unfold aLeave
  split
  · rfl
  · by_cases h : max (B.1 u) f ≤ min (B.2.1 u) t
    · rw [if_pos h, if_pos (h1.mp h), (h2 h).1, (h2 h).2]
    · rw [if_neg h, if_neg (fun q => h (h1.mpr q))]
theorem z_max {a b : Int} (h1 : -2147483648 ≤ a) (h2 : a < 2147483648) (h3 : -2147483648 ≤ b) (h4 : b < 2147483648) : o_max (Int32.ofInt a) (Int32.ofInt b) = Int32.ofInt (max a b) := by
  unfold o_max
  have hi := iI_lt h1 h2 h3 h4
  by_cases h : a < b
  · rw [if_pos (hi.mpr h), Int.max_eq_right (by omega)]
  · rw [if_neg (fun q => h (hi.mp q)), Int.max_eq_left (by omega)]
theorem z_min {a b : Int} (h1 : -2147483648 ≤ a) (h2 : a < 2147483648) (h3 : -2147483648 ≤ b) (h4 : b < 2147483648) : o_min (Int32.ofInt a) (Int32.ofInt b) = Int32.ofInt (min a b) := by
  unfold o_min
  have hi := iI_lt h3 h4 h1 h2
  by_cases h : b < a
  · rw [if_pos (hi.mpr h), Int.min_eq_right (by omega)]
  · rw [if_neg (fun q => h (hi.mp q)), Int.min_eq_left (by omega)]
theorem z_in6 {u n : Nat} (hu : u < n) (hn : n ≤ 6) : ¬ (nI u < 0 ∨ 6 ≤ (nI u).toNatClampNeg) := vp_in_nI (N := 6) (by omega) (by decide)
theorem z_cl {u n : Nat} (hu : u < n) (hn : n ≤ 6) : (nI u).toNatClampNeg = u := nI_clamp (by omega)
theorem o_in6 {β : Type} {u n : Nat} (hu : u < n) (hn : n ≤ 6) (k : Option β) : o_in (nI u) 6 k = k := if_neg (z_in6 hu hn)
theorem z_leave {n u : Nat} {f t : Int} {B : aB} {cut empty : Int32} {vl vh : Nat → Int32} (hn : n ≤ 6) (hu : u < n) (hB : aOK n B) (hC : aC n B cut empty vl vh) (hf1 : -2147483648 ≤ f) (hf2 : f < 2147483648) (ht1 : -2147483648 ≤ t) (ht2 : t < 2147483648) :
    ∃ c' e' l' h', f_X0_leave cut empty vl vh (nI u) (Int32.ofInt f) (Int32.ofInt t) = some (c', e', l', h') ∧ aC n (aLeave u f t B) c' e' l' h' := by
  obtain ⟨hc, he, hv⟩ := hC
  obtain ⟨hl, hh⟩ := hv u hu
  obtain ⟨p1, p2, p3⟩ := hB u hu
  unfold isP at p1 p2
  unfold f_X0_leave f_X0_leave_B68
  simp only [o_nm, o_in6 hu hn, z_cl hu hn]
  rw [hl, hh, z_max (by omega) (by omega) (by omega) (by omega), z_min (by omega) (by omega) (by omega) (by omega)]
  unfold aLeave
  by_cases h0 : B.2.2.2 = true
  · have : ¬ empty = 0 := by rw [he, h0]; decide
    rw [if_neg this, if_pos h0]
    exact ⟨_, _, _, _, rfl, hc, by rw [h0]; rfl, hv⟩
  · have h0' : B.2.2.2 = false := by simpa using h0
    have : empty = 0 := by rw [he, h0']; rfl
    rw [if_pos this, if_neg h0]
    have hi := iI_le (a := max (B.1 u) f) (b := min (B.2.1 u) t) (by omega) (by omega) (by omega) (by omega)
    by_cases h1 : max (B.1 u) f ≤ min (B.2.1 u) t
    · rw [if_pos (hi.mpr h1), if_pos h1]
      have e1 := iI_eq (a := max (B.1 u) f) (b := B.1 u) (by omega) (by omega) (by omega) (by omega)
      have e2 := iI_eq (a := min (B.2.1 u) t) (b := B.2.1 u) (by omega) (by omega) (by omega) (by omega)
      have hnew : ∀ c' : Int32, c' = bI (B.2.2.1 || decide (¬ max (B.1 u) f = B.1 u) || decide (¬ min (B.2.1 u) t = B.2.1 u)) → aC n (iup B.1 u (max (B.1 u) f), iup B.2.1 u (min (B.2.1 u) t), B.2.2.1 || decide (¬ max (B.1 u) f = B.1 u) || decide (¬ min (B.2.1 u) t = B.2.1 u), false) c' empty (upd vl u (Int32.ofInt (max (B.1 u) f))) (upd vh u (Int32.ofInt (min (B.2.1 u) t))) := fun c' hc' => by
        refine ⟨hc', by rw [this]; rfl, fun v hv' => ?_⟩
        show upd vl u _ v = Int32.ofInt (iup B.1 u _ v) ∧ upd vh u _ v = Int32.ofInt (iup B.2.1 u _ v)
        unfold upd iup
        by_cases e : v = u
        · rw [if_pos e, if_pos e, if_pos e, if_pos e]
          exact ⟨rfl, rfl⟩
        · rw [if_neg e, if_neg e, if_neg e, if_neg e]
          exact hv v hv'
      by_cases h2 : max (B.1 u) f = B.1 u
      · rw [if_pos (e1.mpr h2)]
        by_cases h3 : min (B.2.1 u) t = B.2.1 u
        · rw [if_pos (e2.mpr h3)]
          refine ⟨_, _, _, _, rfl, ?_, by rw [this]; rfl, fun v hv' => ?_⟩
          · rw [hc]
            simp [h2, h3]
          · show vl v = Int32.ofInt (iup B.1 u _ v) ∧ vh v = Int32.ofInt (iup B.2.1 u _ v)
            unfold iup
            by_cases e : v = u
            · rw [if_pos e, if_pos e, h2, h3, e]
              exact ⟨hl, hh⟩
            · rw [if_neg e, if_neg e]
              exact hv v hv'
        · rw [if_neg (fun q => h3 (e2.mp q))]
          exact ⟨_, _, _, _, rfl, hnew 1 (by simp [h3, bI])⟩
      · rw [if_neg (fun q => h2 (e1.mp q))]
        exact ⟨_, _, _, _, rfl, hnew 1 (by simp [h2, bI])⟩
    · rw [if_neg (fun q => h1 (hi.mp q)), if_neg h1]
      exact ⟨_, _, _, _, rfl, hc, rfl, hv⟩
/-! the reference -/
theorem y_2u (u : Nat) : (2 : Int32) * nI u = nI (2 * u) := pk_mul 2 u
theorem y_low {n u : Nat} {B : aB} {empty cut : Int32} {box : Nat → Int32} (hn : n ≤ 6) (hu : u < n) (hR : aR n B empty cut box) : f_X8_low box (nI u) = some (Int32.ofInt (B.1 u)) := by
  unfold f_X8_low o_in
  rw [y_2u, if_neg (vp_in_nI (N := 12) (by omega) (by decide)), nI_clamp (by omega), (hR.2.2 u hu).1]
theorem y_high {n u : Nat} {B : aB} {empty cut : Int32} {box : Nat → Int32} (hn : n ≤ 6) (hu : u < n) (hR : aR n B empty cut box) : f_X8_high box (nI u) = some (Int32.ofInt (B.2.1 u)) := by
  unfold f_X8_high o_in
  rw [y_2u, nI_1, if_neg (vp_in_nI (N := 12) (by omega) (by decide)), nI_clamp (by omega), (hR.2.2 u hu).2]
theorem lc_leI {a b : Int} (h1 : -4611686018427387904 ≤ a) (h2 : a < 4611686018427387904) (h3 : -4611686018427387904 ≤ b) (h4 : b < 4611686018427387904) : (lg_cmp (Int64.ofInt a) (Int64.ofInt b) ≤ 0) ↔ a ≤ b := by
  rw [lc_le, jI_T (by omega) (by omega), jI_T (by omega) (by omega)]
theorem lc_eqI {a b : Int} (h1 : -4611686018427387904 ≤ a) (h2 : a < 4611686018427387904) (h3 : -4611686018427387904 ≤ b) (h4 : b < 4611686018427387904) : (lg_cmp (Int64.ofInt a) (Int64.ofInt b) = 0) ↔ a = b := by
  rw [lc_eq, jI_T (by omega) (by omega), jI_T (by omega) (by omega)]
theorem y_keeps {n u : Nat} {f t : Int} {B : aB} {cut empty : Int32} {box : Nat → Int32} (hn : n ≤ 6) (hu : u < n) (hB : aOK n B) (hR : aR n B empty cut box) (hf1 : -4000000000 ≤ f) (hf2 : f ≤ 4000000000) (ht1 : -4000000000 ≤ t) (ht2 : t ≤ 4000000000) :
    ∃ e' c' b', f_X8_keeps empty cut box (nI u) (Int64.ofInt f) (Int64.ofInt t) = some (e', c', b') ∧ aR n (aLeave u f t B) e' c' b' := by
  have hlo := y_low hn hu hR
  have hhi := y_high hn hu hR
  obtain ⟨p1, p2, p3⟩ := hB u hu
  unfold isP at p1 p2
  obtain ⟨hc, he, hv⟩ := id hR
  have key107 : ∀ z : Int32, o_zb z = true → max (B.1 u) f ≤ min (B.2.1 u) t → f_X8_keeps_B107 empty cut box (nI u) (Int64.ofInt (max (B.1 u) f)) (Int64.ofInt (min (B.2.1 u) t)) z = some (empty, z, upd (upd box (2 * u) (Int32.ofInt (max (B.1 u) f))) (2 * u + 1) (Int32.ofInt (min (B.2.1 u) t))) := fun z hz h1 => by
    unfold f_X8_keeps_B107 o_in
    rw [hz, o_ck_true, y_2u, nI_1, if_neg (vp_in_nI (N := 12) (by omega) (by decide)), if_neg (vp_in_nI (N := 12) (by omega) (by decide)), nI_clamp (by omega), nI_clamp (by omega), jI_32, jI_32]
  have hnew : ∀ c' : Int32, empty = 0 → c' = bI (B.2.2.1 || decide (¬ max (B.1 u) f = B.1 u) || decide (¬ min (B.2.1 u) t = B.2.1 u)) → aR n (iup B.1 u (max (B.1 u) f), iup B.2.1 u (min (B.2.1 u) t), B.2.2.1 || decide (¬ max (B.1 u) f = B.1 u) || decide (¬ min (B.2.1 u) t = B.2.1 u), false) empty c' (upd (upd box (2 * u) (Int32.ofInt (max (B.1 u) f))) (2 * u + 1) (Int32.ofInt (min (B.2.1 u) t))) := fun c' h0 hc' => by
    refine ⟨hc', by rw [h0]; rfl, fun v hv' => ?_⟩
    show upd (upd box (2 * u) _) (2 * u + 1) _ (2 * v) = Int32.ofInt (iup B.1 u _ v) ∧ upd (upd box (2 * u) _) (2 * u + 1) _ (2 * v + 1) = Int32.ofInt (iup B.2.1 u _ v)
    unfold upd iup
    by_cases e : v = u
    · subst e
      rw [if_neg (by omega), if_pos rfl, if_pos rfl, if_pos rfl, if_pos rfl]
      exact ⟨rfl, rfl⟩
    · rw [if_neg (by omega), if_neg (by omega), if_neg e, if_neg (by omega), if_neg (by omega), if_neg e]
      exact hv v hv'
  have key54 : empty = 0 → B.2.2.2 = false → ∃ e' c' b', f_X8_keeps_B54 empty cut box (nI u) (Int64.ofInt (max (B.1 u) f)) (Int64.ofInt (min (B.2.1 u) t)) = some (e', c', b') ∧ aR n (if max (B.1 u) f ≤ min (B.2.1 u) t then (iup B.1 u (max (B.1 u) f), iup B.2.1 u (min (B.2.1 u) t), B.2.2.1 || decide (¬ max (B.1 u) f = B.1 u) || decide (¬ min (B.2.1 u) t = B.2.1 u), false) else (B.1, B.2.1, B.2.2.1, true)) e' c' b' := fun h0 hb0 => by
    unfold f_X8_keeps_B54 f_X8_keeps_B102
    have hi := lc_leI (a := max (B.1 u) f) (b := min (B.2.1 u) t) (by omega) (by omega) (by omega) (by omega)
    by_cases h1 : max (B.1 u) f ≤ min (B.2.1 u) t
    · rw [if_pos (hi.mpr h1), if_pos h1]
      by_cases hcut : cut = 0
      · rw [if_pos hcut, hlo, hhi]
        have hb1 : B.2.2.1 = false := bI_0.mp (hc ▸ hcut)
        simp only [o_b1_some]
        rw [iI_64 (by omega) (by omega), iI_64 (by omega) (by omega)]
        have i1 := lc_eqI (a := max (B.1 u) f) (b := B.1 u) (by omega) (by omega) (by omega) (by omega)
        have i2 := lc_eqI (a := min (B.2.1 u) t) (b := B.2.1 u) (by omega) (by omega) (by omega) (by omega)
        by_cases h2 : max (B.1 u) f = B.1 u
        · rw [if_pos (i1.mpr h2)]
          by_cases h3 : min (B.2.1 u) t = B.2.1 u
          · rw [if_pos (i2.mpr h3), key107 0 (by decide) h1]
            exact ⟨_, _, _, rfl, hnew 0 h0 (by simp [hb1, h2, h3, bI])⟩
          · rw [if_neg (fun q => h3 (i2.mp q)), key107 1 (by decide) h1]
            exact ⟨_, _, _, rfl, hnew 1 h0 (by simp [h3, bI])⟩
        · rw [if_neg (fun q => h2 (i1.mp q)), key107 1 (by decide) h1]
          exact ⟨_, _, _, rfl, hnew 1 h0 (by simp [h2, bI])⟩
      · have hb1 : B.2.2.1 = true := by
          rcases hbb : B.2.2.1 with _ | _
          · exact absurd (by rw [hc, hbb]; rfl) hcut
          · rfl
        rw [if_neg hcut, key107 1 (by decide) h1]
        exact ⟨_, _, _, rfl, hnew 1 h0 (by simp [hb1, bI])⟩
    · rw [if_neg (fun q => h1 (hi.mp q)), if_neg h1]
      exact ⟨_, _, _, rfl, hc, rfl, hv⟩
  have key29 : ∀ m : Int, m = max (B.1 u) f → empty = 0 → B.2.2.2 = false → ∃ e' c' b', f_X8_keeps_B29 empty cut box (nI u) (Int64.ofInt t) (Int64.ofInt m) = some (e', c', b') ∧ aR n (if max (B.1 u) f ≤ min (B.2.1 u) t then (iup B.1 u (max (B.1 u) f), iup B.2.1 u (min (B.2.1 u) t), B.2.2.1 || decide (¬ max (B.1 u) f = B.1 u) || decide (¬ min (B.2.1 u) t = B.2.1 u), false) else (B.1, B.2.1, B.2.2.1, true)) e' c' b' := fun m hm h0 hb0 => by
    subst hm
    unfold f_X8_keeps_B29
    rw [hhi]
    simp only [o_b1_some]
    rw [iI_64 (by omega) (by omega)]
    have hi := lc_geI (a := t) (b := B.2.1 u) (by omega) (by omega) (by omega) (by omega)
    by_cases h1 : B.2.1 u ≤ t
    · rw [if_pos (hi.mpr h1)]
      have e : min (B.2.1 u) t = B.2.1 u := by omega
      have := key54 h0 hb0
      rw [e] at this ⊢
      exact this
    · rw [if_neg (fun q => h1 (hi.mp q))]
      have e : min (B.2.1 u) t = t := by omega
      have := key54 h0 hb0
      rw [e] at this ⊢
      exact this
  unfold f_X8_keeps aLeave
  by_cases h0 : B.2.2.2 = true
  · have : ¬ empty = 0 := by rw [he, h0]; decide
    rw [if_neg this, if_pos h0]
    exact ⟨_, _, _, rfl, hR⟩
  · have h0' : B.2.2.2 = false := by simpa using h0
    have hz : empty = 0 := by rw [he, h0']; rfl
    rw [if_pos hz, if_neg h0, hlo]
    simp only [o_b1_some]
    rw [iI_64 (by omega) (by omega)]
    have hi := lc_leI (a := f) (b := B.1 u) (by omega) (by omega) (by omega) (by omega)
    by_cases h1 : f ≤ B.1 u
    · rw [if_pos (hi.mpr h1)]
      exact key29 (B.1 u) (by omega) hz h0'
    · rw [if_neg (fun q => h1 (hi.mp q))]
      exact key29 f (by omega) hz h0'
