/-! product -/
def stp (ex : Prop) [Decidable ex] (f t : Int) (LG : Int × Int) : Int × Int := if ex then (if t < f then LG else (min LG.1 f, max LG.2 t)) else LG
/-- both ends of what fits by a part [q, r] with sign bit 0, for the goals a, b -/
theorem fpair {n N u : Nat} {q r a b : Int} {B : aB} (hn : n ≤ 6) (hN : 40 ≤ N) (hu : u < n) (hB : aOK n B) (hq : isP q) (hr : isP r) (hq0 : ¬ q < 0) (hqr : q ≤ r) (ha1 : -2147482000 ≤ a) (ha2 : a ≤ 2147482000) (hb1 : -2147482000 ≤ b) (hb2 : b ≤ 2147482000) :
    ∃ f t : Int, (B.1 u ≤ f ∧ f ≤ B.2.1 u + 1) ∧ (B.1 u - 1 ≤ t ∧ t ≤ B.2.1 u) ∧ isFirst (fun p => a ≤ pG q r p) (B.1 u) (B.2.1 u) f ∧ isFirst (fun p => b + 1 ≤ pG r q p) (B.1 u) (B.2.1 u) (t + 1) ∧
      (∀ cut empty vl vh, aC n B cut empty vl vh → f_X0_firstProduct N vl vh (nI u) (Int32.ofInt q) (Int32.ofInt r) (Int32.ofInt a) = some (Int32.ofInt f) ∧ f_X0_firstProduct N vl vh (nI u) (Int32.ofInt r) (Int32.ofInt q) (Int32.ofInt b + 1) = some (Int32.ofInt (t + 1))) := by
  obtain ⟨pu1, pu2, pu3⟩ := hB u hu
  have hu6 : u < 6 := by omega
  have hr0 : ¬ r < 0 := by omega
  obtain ⟨r1, -, q1⟩ := z_firstProduct (vl := fun k => Int32.ofInt (B.1 k)) (vh := fun k => Int32.ofInt (B.2.1 k)) (N := N) (goal := a) hN hu6 rfl rfl pu1 pu2 pu3 hq hr hq0 hr0 (by omega) (by omega)
  obtain ⟨r2, -, q2⟩ := z_firstProduct (vl := fun k => Int32.ofInt (B.1 k)) (vh := fun k => Int32.ofInt (B.2.1 k)) (N := N) (goal := b + 1) hN hu6 rfl rfl pu1 pu2 pu3 hr hq hr0 hq0 (by omega) (by omega)
  have b1 := q1.1
  have b2 := q1.2.1
  have b3 := q2.1
  have b4 := q2.2.1
  refine ⟨r1, r2 - 1, ⟨b1, b2⟩, ⟨by omega, by omega⟩, q1, by rw [show r2 - 1 + 1 = r2 by omega]; exact q2, fun cut empty vl vh hC => ?_⟩
  obtain ⟨s1, e1, g1⟩ := z_firstProduct (vl := vl) (vh := vh) (N := N) (goal := a) hN hu6 (aC_l hC hu) (aC_h hC hu) pu1 pu2 pu3 hq hr hq0 hr0 (by omega) (by omega)
  obtain ⟨s2, e2, g2⟩ := z_firstProduct (vl := vl) (vh := vh) (N := N) (goal := b + 1) hN hu6 (aC_l hC hu) (aC_h hC hu) pu1 pu2 pu3 hr hq hr0 hq0 (by omega) (by omega)
  rw [iI_p1, e1, e2, isFirst_one g1 q1, isFirst_one g2 q2, show r2 - 1 + 1 = r2 by omega]
  exact ⟨rfl, rfl⟩
theorem isP_turn {p : Int} (h : isP p) : isP (-1 - p) := by
  unfold isP at *
  omega
theorem isP_0 : isP 0 := by
  unfold isP
  omega
/-- the class's step by one part -/
theorem z_B155 {n N u : Nat} {B : aB} {cut empty : Int32} {vl vh : Nat → Int32} {k : Int32 → Int32 → (Nat → Int32) → (Nat → Int32) → Int32 → Int32 → Int32 → Int32 → Int32 → Int32 → Option (Int32 × Int32 × (Nat → Int32) × (Nat → Int32))} {o z x6 : Int32} {q r a b f t L G : Int} (hu : u < n) (hB : aOK n B)
    (hf : f_X0_firstProduct N vl vh (nI u) (Int32.ofInt q) (Int32.ofInt r) (Int32.ofInt a) = some (Int32.ofInt f)) (ht : f_X0_firstProduct N vl vh (nI u) (Int32.ofInt r) (Int32.ofInt q) (Int32.ofInt b + 1) = some (Int32.ofInt (t + 1))) (hfb : B.1 u ≤ f ∧ f ≤ B.2.1 u + 1) (htb : B.1 u - 1 ≤ t ∧ t ≤ B.2.1 u) (hL : -2147482000 ≤ L ∧ L ≤ 2147482000) (hG : -2147482000 ≤ G ∧ G ≤ 2147482000) :
    f_X0_cutFactor_B155 N k cut empty vh vl (nI u) o z (Int32.ofInt L) (Int32.ofInt G) x6 (Int32.ofInt q) (Int32.ofInt r) (Int32.ofInt a) (Int32.ofInt b) = k cut empty vh vl (nI u) o z (Int32.ofInt (if t < f then (L, G) else (min L f, max G t)).1) (Int32.ofInt (if t < f then (L, G) else (min L f, max G t)).2) (x6 + 1) := by
  have bu := aOK_in hB hu
  unfold f_X0_cutFactor_B155 f_X0_cutFactor_B212
  rw [hf, o_b1_some, ht, o_b1_some]
  simp only [o_nm]
  rw [iI_d1, show t + 1 - 1 = t by omega]
  have hi : (Int32.ofInt t < Int32.ofInt f) ↔ t < f := iI_lt (by omega) (by omega) (by omega) (by omega)
  by_cases h : t < f
  · rw [if_pos (hi.mpr h), if_pos h]
  · rw [if_neg (fun x => h (hi.mp x)), if_neg h, z_min (by omega) (by omega) (by omega) (by omega), z_max (by omega) (by omega) (by omega) (by omega)]
theorem stp_in {ex : Prop} [Decidable ex] {f t : Int} {LG : Int × Int} {lo hi : Int} (hlo : -2139095040 ≤ lo ∧ lo ≤ hi ∧ hi ≤ 2139095039) (hf : lo ≤ f ∧ f ≤ hi + 1) (ht : lo - 1 ≤ t ∧ t ≤ hi) (h1 : -2147482000 ≤ LG.1 ∧ LG.1 ≤ 2147482000) (h2 : -2147482000 ≤ LG.2 ∧ LG.2 ≤ 2147482000) : (-2147482000 ≤ (stp ex f t LG).1 ∧ (stp ex f t LG).1 ≤ 2147482000) ∧ (-2147482000 ≤ (stp ex f t LG).2 ∧ (stp ex f t LG).2 ≤ 2147482000) := by
  unfold stp
  split
  · split
    · exact ⟨h1, h2⟩
    · exact ⟨by show _ ≤ min LG.1 f ∧ min LG.1 f ≤ _; omega, by show _ ≤ max LG.2 t ∧ max LG.2 t ≤ _; omega⟩
  · exact ⟨h1, h2⟩
/-- the reference's step by the part with sign bit 0 -/
theorem y_lcgt {a b : Int} (h1 : -4611686018427387904 ≤ a) (h2 : a < 4611686018427387904) (h3 : -4611686018427387904 ≤ b) (h4 : b < 4611686018427387904) : (0 < lg_cmp (Int64.ofInt a) (Int64.ofInt b)) ↔ b < a := by
  rw [lc_gt, jI_T (by omega) (by omega), jI_T (by omega) (by omega)]
def fac0 (n N u o z : Nat) (B : aB) (f t : Int) : Prop := (B.1 u ≤ f ∧ f ≤ B.2.1 u + 1) ∧ (B.1 u - 1 ≤ t ∧ t ≤ B.2.1 u) ∧ (0 ≤ B.2.1 o → isFirst (fun p => B.1 z ≤ pG (max (B.1 o) 0) (B.2.1 o) p) (B.1 u) (B.2.1 u) f ∧ isFirst (fun p => B.2.1 z + 1 ≤ pG (B.2.1 o) (max (B.1 o) 0) p) (B.1 u) (B.2.1 u) (t + 1) ∧
      (∀ cut empty vl vh, aC n B cut empty vl vh → f_X0_firstProduct N vl vh (nI u) (Int32.ofInt (max (B.1 o) 0)) (Int32.ofInt (B.2.1 o)) (Int32.ofInt (B.1 z)) = some (Int32.ofInt f) ∧ f_X0_firstProduct N vl vh (nI u) (Int32.ofInt (B.2.1 o)) (Int32.ofInt (max (B.1 o) 0)) (Int32.ofInt (B.2.1 z) + 1) = some (Int32.ofInt (t + 1))))
def fac1 (n N u o z : Nat) (B : aB) (f t : Int) : Prop := (B.1 u ≤ f ∧ f ≤ B.2.1 u + 1) ∧ (B.1 u - 1 ≤ t ∧ t ≤ B.2.1 u) ∧ (B.1 o < 0 → isFirst (fun p => -1 - B.2.1 z ≤ pG (max (-1 - B.2.1 o) 0) (-1 - B.1 o) p) (B.1 u) (B.2.1 u) f ∧ isFirst (fun p => -1 - B.1 z + 1 ≤ pG (-1 - B.1 o) (max (-1 - B.2.1 o) 0) p) (B.1 u) (B.2.1 u) (t + 1) ∧
      (∀ cut empty vl vh, aC n B cut empty vl vh → f_X0_firstProduct N vl vh (nI u) (Int32.ofInt (max (-1 - B.2.1 o) 0)) (Int32.ofInt (-1 - B.1 o)) (Int32.ofInt (-1 - B.2.1 z)) = some (Int32.ofInt f) ∧ f_X0_firstProduct N vl vh (nI u) (Int32.ofInt (-1 - B.1 o)) (Int32.ofInt (max (-1 - B.2.1 o) 0)) (Int32.ofInt (-1 - B.1 z) + 1) = some (Int32.ofInt (t + 1))))
theorem fac0_ex {n N u o z : Nat} {B : aB} (hn : n ≤ 6) (hN : 40 ≤ N) (hu : u < n) (ho : o < n) (hz : z < n) (hB : aOK n B) : ∃ f t : Int, fac0 n N u o z B f t := by
  obtain ⟨pu1, pu2, pu3⟩ := hB u hu
  obtain ⟨po1, po2, po3⟩ := hB o ho
  have bu := aOK_in hB hu
  have bo := aOK_in hB ho
  have bz := aOK_in hB hz
  unfold fac0
  by_cases h : 0 ≤ B.2.1 o
  · obtain ⟨f, t, a1, a2, a3, a4, a5⟩ := fpair (q := max (B.1 o) 0) (r := B.2.1 o) (a := B.1 z) (b := B.2.1 z) hn hN hu hB (by unfold isP; omega) po2 (by omega) (by omega) (by omega) (by omega) (by omega) (by omega)
    exact ⟨f, t, a1, a2, fun _ => ⟨a3, a4, a5⟩⟩
  · exact ⟨B.1 u, B.1 u, ⟨by omega, by omega⟩, ⟨by omega, by omega⟩, fun h' => absurd h' h⟩
theorem fac1_ex {n N u o z : Nat} {B : aB} (hn : n ≤ 6) (hN : 40 ≤ N) (hu : u < n) (ho : o < n) (hz : z < n) (hB : aOK n B) : ∃ f t : Int, fac1 n N u o z B f t := by
  obtain ⟨pu1, pu2, pu3⟩ := hB u hu
  obtain ⟨po1, po2, po3⟩ := hB o ho
  have bu := aOK_in hB hu
  have bo := aOK_in hB ho
  have bz := aOK_in hB hz
  unfold fac1
  by_cases h : B.1 o < 0
  · obtain ⟨f, t, a1, a2, a3, a4, a5⟩ := fpair (q := max (-1 - B.2.1 o) 0) (r := -1 - B.1 o) (a := -1 - B.2.1 z) (b := -1 - B.1 z) hn hN hu hB (by unfold isP; omega) (isP_turn po1) (by omega) (by omega) (by omega) (by omega) (by omega) (by omega)
    exact ⟨f, t, a1, a2, fun _ => ⟨a3, a4, a5⟩⟩
  · exact ⟨B.1 u, B.1 u, ⟨by omega, by omega⟩, ⟨by omega, by omega⟩, fun h' => absurd h' h⟩
theorem fac_st0 {n N u o z : Nat} {B : aB} (hn : n ≤ 6) (hN : 40 ≤ N) (hu : u < n) (ho : o < n) (hz : z < n) (hB : aOK n B) {f0 t0 : Int} (hf : fac0 n N u o z B f0 t0) {cut empty : Int32} {vl vh : Nat → Int32} (hC : aC n B cut empty vl vh) (k : Int32 → Int32 → (Nat → Int32) → (Nat → Int32) → Int32 → Int32 → Int32 → Int32 → Int32 → Int32 → Option (Int32 × Int32 × (Nat → Int32) × (Nat → Int32))) (L G : Int) (hL : -2147482000 ≤ L ∧ L ≤ 2147482000) (hG : -2147482000 ≤ G ∧ G ≤ 2147482000) : f_X0_cutFactor_B48 N k cut empty vh vl (nI u) (nI o) (nI z) (Int32.ofInt L) (Int32.ofInt G) 0 0 = k cut empty vh vl (nI u) (nI o) (nI z) (Int32.ofInt (stp (0 ≤ B.2.1 o) f0 t0 (L, G)).1) (Int32.ofInt (stp (0 ≤ B.2.1 o) f0 t0 (L, G)).2) 1 := by
  obtain ⟨pu1, pu2, pu3⟩ := hB u hu
  obtain ⟨po1, po2, po3⟩ := hB o ho
  have bu := aOK_in hB hu
  have bo := aOK_in hB ho
  have bz := aOK_in hB hz
  obtain ⟨f0b, t0b, P0⟩ := hf
  unfold f_X0_cutFactor_B48 f_X0_cutFactor_B72
  rw [if_pos rfl, o_in6 ho hn, z_cl ho hn, aC_l hC ho]
  simp only [o_nm]
  have em : o_max (Int32.ofInt (B.1 o)) 0 = Int32.ofInt (max (B.1 o) 0) := z_max (b := 0) (by omega) (by omega) (by decide) (by decide)
  rw [if_pos trivial, o_in6 ho hn, em, aC_h hC ho]
  unfold f_X0_cutFactor_B100
  have hi : (Int32.ofInt (B.2.1 o) < Int32.ofInt (max (B.1 o) 0)) ↔ B.2.1 o < max (B.1 o) 0 := iI_lt (by omega) (by omega) (by omega) (by omega)
  unfold stp
  by_cases h : 0 ≤ B.2.1 o
  · obtain ⟨-, -, P⟩ := P0 h
    obtain ⟨pf, pt⟩ := P cut empty vl vh hC
    rw [if_neg (fun x => by have := hi.mp x; omega), if_pos rfl, o_in6 hz hn, z_cl hz hn, aC_l hC hz, if_pos h]
    unfold f_X0_cutFactor_B131
    rw [if_pos rfl, o_in6 hz hn, z_cl hz hn, aC_h hC hz]
    exact z_B155 hu hB pf pt f0b t0b hL hG
  · rw [if_pos (hi.mpr (by omega)), if_neg h]
    rfl
theorem fac_st1 {n N u o z : Nat} {B : aB} (hn : n ≤ 6) (hN : 40 ≤ N) (hu : u < n) (ho : o < n) (hz : z < n) (hB : aOK n B) {f1 t1 : Int} (hf : fac1 n N u o z B f1 t1) {cut empty : Int32} {vl vh : Nat → Int32} (hC : aC n B cut empty vl vh) (k : Int32 → Int32 → (Nat → Int32) → (Nat → Int32) → Int32 → Int32 → Int32 → Int32 → Int32 → Int32 → Option (Int32 × Int32 × (Nat → Int32) × (Nat → Int32))) (L G : Int) (hL : -2147482000 ≤ L ∧ L ≤ 2147482000) (hG : -2147482000 ≤ G ∧ G ≤ 2147482000) : f_X0_cutFactor_B48 N k cut empty vh vl (nI u) (nI o) (nI z) (Int32.ofInt L) (Int32.ofInt G) 1 1 = k cut empty vh vl (nI u) (nI o) (nI z) (Int32.ofInt (stp (B.1 o < 0) f1 t1 (L, G)).1) (Int32.ofInt (stp (B.1 o < 0) f1 t1 (L, G)).2) 2 := by
  obtain ⟨pu1, pu2, pu3⟩ := hB u hu
  obtain ⟨po1, po2, po3⟩ := hB o ho
  have bu := aOK_in hB hu
  have bo := aOK_in hB ho
  have bz := aOK_in hB hz
  obtain ⟨f1b, t1b, P1⟩ := hf
  unfold f_X0_cutFactor_B48 f_X0_cutFactor_B72
  rw [if_neg (by decide), o_in6 ho hn, z_cl ho hn, aC_h hC ho, iI_m1]
  simp only [o_nm]
  have em : o_max (Int32.ofInt (-1 - B.2.1 o)) 0 = Int32.ofInt (max (-1 - B.2.1 o) 0) := z_max (b := 0) (by omega) (by omega) (by decide) (by decide)
  rw [if_neg (by decide), o_in6 ho hn, em, aC_l hC ho, iI_m1]
  unfold f_X0_cutFactor_B100
  have hi : (Int32.ofInt (-1 - B.1 o) < Int32.ofInt (max (-1 - B.2.1 o) 0)) ↔ -1 - B.1 o < max (-1 - B.2.1 o) 0 := iI_lt (by omega) (by omega) (by omega) (by omega)
  unfold stp
  by_cases h : B.1 o < 0
  · obtain ⟨-, -, P⟩ := P1 h
    obtain ⟨pf, pt⟩ := P cut empty vl vh hC
    rw [if_neg (fun x => by have := hi.mp x; omega), if_neg (by decide), o_in6 hz hn, z_cl hz hn, aC_h hC hz, iI_m1, if_pos h]
    unfold f_X0_cutFactor_B131
    rw [if_neg (by decide), o_in6 hz hn, z_cl hz hn, aC_l hC hz, iI_m1]
    exact z_B155 hu hB pf pt f1b t1b hL hG
  · rw [if_pos (hi.mpr (by omega)), if_neg h]
    rfl
theorem fac_class {n N u o z : Nat} {B : aB} (hn : n ≤ 6) (hN : 40 ≤ N) (hu : u < n) (ho : o < n) (hz : z < n) (hB : aOK n B) {f0 t0 f1 t1 : Int} (h0 : fac0 n N u o z B f0 t0) (h1 : fac1 n N u o z B f1 t1) {cut empty : Int32} {vl vh : Nat → Int32} (hC : aC n B cut empty vl vh) : ∃ c' e' l' h', f_X0_cutFactor N cut empty vh vl (nI u) (nI o) (nI z) = some (c', e', h', l') ∧ aC n (aLeave u (stp (B.1 o < 0) f1 t1 (stp (0 ≤ B.2.1 o) f0 t0 (B.2.1 u + 1, B.1 u - 1))).1 (stp (B.1 o < 0) f1 t1 (stp (0 ≤ B.2.1 o) f0 t0 (B.2.1 u + 1, B.1 u - 1))).2 B) c' e' l' h' := by
  obtain ⟨pu1, pu2, pu3⟩ := hB u hu
  obtain ⟨po1, po2, po3⟩ := hB o ho
  have bu := aOK_in hB hu
  have bo := aOK_in hB ho
  have bz := aOK_in hB hz
  obtain ⟨f0b, t0b, -⟩ := id h0
  obtain ⟨f1b, t1b, -⟩ := id h1
  have s0 := stp_in (ex := 0 ≤ B.2.1 o) (LG := (B.2.1 u + 1, B.1 u - 1)) bu f0b t0b ⟨by show _ ≤ B.2.1 u + 1; omega, by show B.2.1 u + 1 ≤ _; omega⟩ ⟨by show _ ≤ B.1 u - 1; omega, by show B.1 u - 1 ≤ _; omega⟩
  have s1 := stp_in (ex := B.1 o < 0) (LG := stp (0 ≤ B.2.1 o) f0 t0 (B.2.1 u + 1, B.1 u - 1)) bu f1b t1b s0.1 s0.2
  unfold f_X0_cutFactor
  by_cases he0 : B.2.2.2 = false
  · rw [if_pos ((aC_e hC).mpr he0), o_in6 hu hn]
    simp only [o_nm]
    rw [o_in6 hu hn, z_cl hu hn, aC_h hC hu, aC_l hC hu, iI_p1, iI_d1]
    obtain ⟨N', rfl⟩ : ∃ N', N = N' + 3 := ⟨N - 3, by omega⟩
    obtain ⟨c', e', l', h', hel, hCl⟩ := z_leave (f := (stp (B.1 o < 0) f1 t1 (stp (0 ≤ B.2.1 o) f0 t0 (B.2.1 u + 1, B.1 u - 1))).1) (t := (stp (B.1 o < 0) f1 t1 (stp (0 ≤ B.2.1 o) f0 t0 (B.2.1 u + 1, B.1 u - 1))).2) hn hu hB hC (by omega) (by omega) (by omega) (by omega)
    refine ⟨c', e', l', h', ?_, hCl⟩
    rw [show f_X0_cutFactor_L31 (N' + 3) (N' + 3) = f_X0_cutFactor_C31 (N' + 3) (f_X0_cutFactor_L31 (N' + 3) (N' + 2)) from rfl]
    unfold f_X0_cutFactor_C31
    rw [if_neg (by decide), if_neg (by decide), fac_st0 hn hN hu ho hz hB h0 hC _ _ _ (by omega) (by omega)]
    rw [show f_X0_cutFactor_L31 (N' + 3) (N' + 2) = f_X0_cutFactor_C31 (N' + 3) (f_X0_cutFactor_L31 (N' + 3) (N' + 1)) from rfl]
    unfold f_X0_cutFactor_C31
    rw [if_neg (by decide), if_pos rfl, fac_st1 hn hN hu ho hz hB h1 hC _ _ _ s0.1 s0.2]
    rw [show f_X0_cutFactor_L31 (N' + 3) (N' + 1) = f_X0_cutFactor_C31 (N' + 3) (f_X0_cutFactor_L31 (N' + 3) N') from rfl]
    unfold f_X0_cutFactor_C31
    rw [if_pos (by decide), hel, o_b4_some]
  · rw [if_neg (fun x => he0 ((aC_e hC).mp x)), aLeave_e he0]
    exact ⟨_, _, _, _, rfl, hC⟩
theorem fac_k149 {n N u o z : Nat} {B : aB} (hn : n ≤ 6) (hN : 40 ≤ N) (hu : u < n) (ho : o < n) (hz : z < n) (hB : aOK n B) {f0 t0 : Int} (hf : fac0 n N u o z B f0 t0) {cut empty : Int32} {box : Nat → Int32} (hR : aR n B empty cut box) {LG : Int × Int} (w1 : (-3000000000 ≤ LG.1 ∧ LG.1 ≤ 3000000000) ∧ (-3000000000 ≤ LG.2 ∧ LG.2 ≤ 3000000000)) {R : Option (Int32 × Int32 × (Nat → Int32))} (k282 : ∀ X Y : Int, X = (stp (0 ≤ B.2.1 o) f0 t0 LG).1 → Y = (stp (0 ≤ B.2.1 o) f0 t0 LG).2 → f_X8_keepsFactor_B282 N empty cut box (nI u) (Int64.ofInt X) (Int64.ofInt Y) = R) : f_X8_keepsFactor_B149 N empty cut box (nI u) (nI o) (nI z) (Int64.ofInt LG.1) (Int64.ofInt LG.2) = R := by
  obtain ⟨pu1, pu2, pu3⟩ := hB u hu
  obtain ⟨po1, po2, po3⟩ := hB o ho
  have bu := aOK_in hB hu
  have bo := aOK_in hB ho
  have bz := aOK_in hB hz
  have hlow := y_low hn hu hR
  have hhigh := y_high hn hu hR
  obtain ⟨f0b, t0b, P0⟩ := hf
  unfold f_X8_keepsFactor_B149
  rw [y_high hn ho hR, o_b1_some]
  have hi : (Int32.ofInt (B.2.1 o) < 0) ↔ B.2.1 o < 0 := iI_lt (b := 0) (by omega) (by omega) (by decide) (by decide)
  by_cases h : 0 ≤ B.2.1 o
  · rw [if_neg (fun x => by have := hi.mp x; omega), y_low hn ho hR, o_b1_some]
    obtain ⟨g1, g2, -⟩ := P0 h
    have hq : isP (max (B.1 o) 0) := by unfold isP; omega
    obtain ⟨x1, ex1, d1⟩ := y_firstRising (N := N) (kd := 1) (q := Int32.ofInt (max (B.1 o) 0)) (r := Int32.ofInt (B.2.1 o)) (F := fun p => pG (max (B.1 o) 0) (B.2.1 o) p) (goal := B.1 z) hN pu1 pu2 pu3 (by omega) (by omega) (fun p p1 p2 => (y_outer_pos (isP_mid pu1 pu2 p1 p2) hq po2 (by omega) (by omega)).1) (fun p => pG_in _ _ p) (fun p p' _ hh _ hh' => by
      have := pG_mono (mi := max (B.1 o) 0) (pl := B.2.1 o) (by omega) (by omega) hh
      omega)
    obtain ⟨x2, ex2, d2⟩ := y_lastRising (N := N) (kd := 1) (q := Int32.ofInt (max (B.1 o) 0)) (r := Int32.ofInt (B.2.1 o)) (F := fun p => pG (B.2.1 o) (max (B.1 o) 0) p) (goal := B.2.1 z) hN pu1 pu2 pu3 (by omega) (by omega) (fun p p1 p2 => (y_outer_pos (isP_mid pu1 pu2 p1 p2) hq po2 (by omega) (by omega)).2) (fun p => pG_in _ _ p) (fun p p' _ hh _ hh' => by
      have := pG_mono (mi := B.2.1 o) (pl := max (B.1 o) 0) (by omega) (by omega) hh
      omega)
    have y1 : x1 = f0 := isFirst_one d1 g1
    have y2 : x2 = t0 := by
      have := isFirst_one d2 g2
      omega
    have k174 : f_X8_keepsFactor_B174 N empty cut box (nI u) (nI o) (nI z) (Int64.ofInt LG.1) (Int64.ofInt LG.2) (Int32.ofInt (max (B.1 o) 0)) = R := by
      unfold f_X8_keepsFactor_B174 f_X8_keepsFactor_B253 f_X8_keepsFactor_B255 f_X8_keepsFactor_B278 f_X8_keepsFactor_B280
      rw [hlow, o_b1_some, hhigh, o_b1_some, y_high hn ho hR, o_b1_some, y_low hn hz hR, o_b1_some, ex1, o_b1_some, o_b1_some, o_b1_some, o_b1_some, y_high hn hz hR, o_b1_some, ex2, o_b1_some, y1, y2]
      have i1 := y_lcgt (a := f0) (b := t0) (by omega) (by omega) (by omega) (by omega)
      have i2 := lc_geI (a := f0) (b := LG.1) (by omega) (by omega) (by omega) (by omega)
      have i3 := lc_leI (a := t0) (b := LG.2) (by omega) (by omega) (by omega) (by omega)
      have ev : stp (0 ≤ B.2.1 o) f0 t0 LG = if t0 < f0 then LG else (min LG.1 f0, max LG.2 t0) := by unfold stp; rw [if_pos h]
      rw [ev] at k282
      by_cases g0 : t0 < f0
      · rw [if_pos (i1.mpr g0), if_pos (i1.mpr g0)]
        rw [if_pos g0] at k282
        exact k282 _ _ rfl rfl
      · rw [if_neg (fun x => g0 (i1.mp x))]
        rw [if_neg g0] at k282
        have tl : ∀ X : Int, X = min LG.1 f0 → (if 0 < lg_cmp (Int64.ofInt f0) (Int64.ofInt t0) then f_X8_keepsFactor_B282 N empty cut box (nI u) (Int64.ofInt X) (Int64.ofInt LG.2) else if lg_cmp (Int64.ofInt t0) (Int64.ofInt LG.2) ≤ 0 then f_X8_keepsFactor_B282 N empty cut box (nI u) (Int64.ofInt X) (Int64.ofInt LG.2) else f_X8_keepsFactor_B282 N empty cut box (nI u) (Int64.ofInt X) (Int64.ofInt t0)) = R := fun X hX => by
          rw [if_neg (fun x => g0 (i1.mp x))]
          by_cases g2 : t0 ≤ LG.2
          · rw [if_pos (i3.mpr g2)]
            exact k282 _ _ hX (by show _ = max LG.2 t0; omega)
          · rw [if_neg (fun x => g2 (i3.mp x))]
            exact k282 _ _ hX (by show _ = max LG.2 t0; omega)
        by_cases g1 : LG.1 ≤ f0
        · rw [if_pos (i2.mpr g1)]
          exact tl _ (by omega)
        · rw [if_neg (fun x => g1 (i2.mp x))]
          exact tl _ (by omega)
    have hi0 := z_0le (p := B.1 o) (by omega) (by omega)
    by_cases hl0 : B.1 o < 0
    · rw [if_neg (fun x => hi0.mp x hl0)]
      rw [show max (B.1 o) 0 = 0 by omega] at k174
      exact k174
    · rw [if_pos (hi0.mpr hl0)]
      rw [show max (B.1 o) 0 = B.1 o by omega] at k174
      try rw [o_b1_some]
      exact k174
  · rw [if_pos (hi.mpr (by omega))]
    have ev : stp (0 ≤ B.2.1 o) f0 t0 LG = LG := by unfold stp; rw [if_neg h]
    exact k282 _ _ (by rw [ev]) (by rw [ev])
theorem fac_k43 {n N u o z : Nat} {B : aB} (hn : n ≤ 6) (hN : 40 ≤ N) (hu : u < n) (ho : o < n) (hz : z < n) (hB : aOK n B) {f1 t1 : Int} (hf : fac1 n N u o z B f1 t1) (h : B.1 o < 0) {cut empty : Int32} {box : Nat → Int32} (hR : aR n B empty cut box) {R : Option (Int32 × Int32 × (Nat → Int32))} (k149 : f_X8_keepsFactor_B149 N empty cut box (nI u) (nI o) (nI z) (Int64.ofInt (stp (B.1 o < 0) f1 t1 (3000000000, -3000000000)).1) (Int64.ofInt (stp (B.1 o < 0) f1 t1 (3000000000, -3000000000)).2) = R) (r : Int) (hrr : r = min (B.2.1 o) (-1)) : f_X8_keepsFactor_B43 N empty cut box (nI u) (nI o) (nI z) (Int64.ofInt 3000000000) (Int64.ofInt (-3000000000)) (Int32.ofInt r) = R := by
  obtain ⟨pu1, pu2, pu3⟩ := hB u hu
  obtain ⟨po1, po2, po3⟩ := hB o ho
  have bu := aOK_in hB hu
  have bo := aOK_in hB ho
  have bz := aOK_in hB hz
  have hlow := y_low hn hu hR
  have hhigh := y_high hn hu hR
  obtain ⟨f1b, t1b, P1⟩ := hf
  obtain ⟨g1, g2, -⟩ := P1 h
  generalize hLG : stp (B.1 o < 0) f1 t1 (3000000000, -3000000000) = LG at k149
  have hrP : isP r := by unfold isP; omega
  have er : max (-1 - B.2.1 o) 0 = -1 - r := by omega
  rw [er] at g1 g2
  obtain ⟨x1, ex1, d1⟩ := y_firstFalling (N := N) (q := Int32.ofInt (B.1 o)) (r := Int32.ofInt r) (F := fun p => -1 - pG (-1 - r) (-1 - B.1 o) p) (goal := B.2.1 z) hN pu1 pu2 pu3 (by omega) (by omega) (fun p p1 p2 => (y_outer_neg (isP_mid pu1 pu2 p1 p2) po1 hrP (by omega) (by omega)).2) (fun p => by
    have := pG_in (-1 - r) (-1 - B.1 o) p
    omega) (fun p p' _ hh _ hh' => by
    have := pG_mono (mi := -1 - r) (pl := -1 - B.1 o) (by omega) (by omega) hh
    omega)
  obtain ⟨x2, ex2, d2⟩ := y_lastFalling (N := N) (q := Int32.ofInt (B.1 o)) (r := Int32.ofInt r) (F := fun p => -1 - pG (-1 - B.1 o) (-1 - r) p) (goal := B.1 z) hN pu1 pu2 pu3 (by omega) (by omega) (fun p p1 p2 => (y_outer_neg (isP_mid pu1 pu2 p1 p2) po1 hrP (by omega) (by omega)).1) (fun p => by
    have := pG_in (-1 - B.1 o) (-1 - r) p
    omega) (fun p p' _ hh _ hh' => by
    have := pG_mono (mi := -1 - B.1 o) (pl := -1 - r) (by omega) (by omega) hh
    omega)
  have y1 : x1 = f1 := by
    refine isFirst_one (P := fun p => -1 - B.2.1 z ≤ pG (-1 - r) (-1 - B.1 o) p) ⟨d1.1, d1.2.1, fun p p1 p2 q => d1.2.2.1 p p1 p2 ?_, fun p p1 p2 => ?_⟩ g1
    · show -1 - pG (-1 - r) (-1 - B.1 o) p ≤ B.2.1 z
      omega
    · have : -1 - pG (-1 - r) (-1 - B.1 o) p ≤ B.2.1 z := d1.2.2.2 p p1 p2
      omega
  have y2 : x2 = t1 := by
    have : x2 + 1 = t1 + 1 := by
      refine isFirst_one (P := fun p => -1 - B.1 z + 1 ≤ pG (-1 - B.1 o) (-1 - r) p) ⟨d2.1, d2.2.1, fun p p1 p2 q => d2.2.2.1 p p1 p2 ?_, fun p p1 p2 => ?_⟩ g2
      · show -1 - pG (-1 - B.1 o) (-1 - r) p < B.1 z
        omega
      · have : -1 - pG (-1 - B.1 o) (-1 - r) p < B.1 z := d2.2.2.2 p p1 p2
        omega
    omega
  unfold f_X8_keepsFactor_B43 f_X8_keepsFactor_B120 f_X8_keepsFactor_B122 f_X8_keepsFactor_B145 f_X8_keepsFactor_B147
  rw [hlow, o_b1_some, hhigh, o_b1_some, y_low hn ho hR, o_b1_some, y_high hn hz hR, o_b1_some, ex1, o_b1_some, o_b1_some, o_b1_some, o_b1_some, y_low hn hz hR, o_b1_some, ex2, o_b1_some, y1, y2]
  have i1 := y_lcgt (a := f1) (b := t1) (by omega) (by omega) (by omega) (by omega)
  have i2 := lc_geI (a := f1) (b := 3000000000) (by omega) (by omega) (by omega) (by omega)
  have i3 := lc_leI (a := t1) (b := -3000000000) (by omega) (by omega) (by omega) (by omega)
  have ev : LG = if t1 < f1 then ((3000000000 : Int), (-3000000000 : Int)) else (min 3000000000 f1, max (-3000000000) t1) := by
    rw [← hLG]
    unfold stp
    rw [if_pos h]
  by_cases gg : t1 < f1
  · rw [if_pos (i1.mpr gg), if_pos (i1.mpr gg)]
    rw [if_pos gg] at ev
    rw [ev] at k149
    exact k149
  · rw [if_neg (fun x => gg (i1.mp x)), if_neg (fun x => by have := i2.mp x; omega), if_neg (fun x => gg (i1.mp x)), if_neg (fun x => by have := i3.mp x; omega)]
    rw [if_neg gg] at ev
    have e1 : LG.1 = f1 := by rw [ev]; show min 3000000000 f1 = f1; omega
    have e2 : LG.2 = t1 := by rw [ev]; show max (-3000000000) t1 = t1; omega
    rw [e1, e2] at k149
    exact k149
theorem stp_two {e0 e1 : Prop} [Decidable e0] [Decidable e1] {f0 t0 f1 t1 lo hi : Int} (hlo : -2139095040 ≤ lo ∧ lo ≤ hi ∧ hi ≤ 2139095039) (h1 : lo ≤ f0 ∧ f0 ≤ hi + 1) (h2 : lo - 1 ≤ t0 ∧ t0 ≤ hi) (h3 : lo ≤ f1 ∧ f1 ≤ hi + 1) (h4 : lo - 1 ≤ t1 ∧ t1 ≤ hi) :
    stp e0 f0 t0 (stp e1 f1 t1 (3000000000, -3000000000)) = stp e1 f1 t1 (stp e0 f0 t0 (hi + 1, lo - 1)) ∨ (stp e0 f0 t0 (stp e1 f1 t1 (3000000000, -3000000000)) = (3000000000, -3000000000) ∧ stp e1 f1 t1 (stp e0 f0 t0 (hi + 1, lo - 1)) = (hi + 1, lo - 1)) := by
  unfold stp
  by_cases e0 : e0
  · by_cases g0 : t0 < f0
    · by_cases e1 : e1
      · by_cases g1 : t1 < f1
        · simp only [e0, e1, g0, g1, if_true, and_self, or_true]
        · left
          simp only [e0, e1, g0, g1, if_true, if_false]
          exact Prod.ext (by show min 3000000000 f1 = min (hi + 1) f1; omega) (by show max (-3000000000) t1 = max (lo - 1) t1; omega)
      · simp only [e0, e1, g0, if_true, if_false, and_self, or_true]
    · left
      by_cases e1 : e1
      · by_cases g1 : t1 < f1
        · simp only [e0, e1, g0, g1, if_true, if_false]
          exact Prod.ext (by show min 3000000000 f0 = min (hi + 1) f0; omega) (by show max (-3000000000) t0 = max (lo - 1) t0; omega)
        · simp only [e0, e1, g0, g1, if_true, if_false]
          exact Prod.ext (by show min (min 3000000000 f1) f0 = min (min (hi + 1) f0) f1; omega) (by show max (max (-3000000000) t1) t0 = max (max (lo - 1) t0) t1; omega)
      · simp only [e0, e1, g0, if_true, if_false]
        exact Prod.ext (by show min 3000000000 f0 = min (hi + 1) f0; omega) (by show max (-3000000000) t0 = max (lo - 1) t0; omega)
  · by_cases e1 : e1
    · by_cases g1 : t1 < f1
      · simp only [e0, e1, g1, if_true, if_false, and_self, or_true]
      · left
        simp only [e0, e1, g1, if_true, if_false]
        exact Prod.ext (by show min 3000000000 f1 = min (hi + 1) f1; omega) (by show max (-3000000000) t1 = max (lo - 1) t1; omega)
    · simp only [e0, e1, if_false, and_self, or_true]
theorem stp_bnd {ex : Prop} [Decidable ex] {f t : Int} {LG : Int × Int} (h1 : -3000000000 ≤ f ∧ f ≤ 3000000000) (h2 : -3000000000 ≤ t ∧ t ≤ 3000000000) (h3 : -3000000000 ≤ LG.1 ∧ LG.1 ≤ 3000000000) (h4 : -3000000000 ≤ LG.2 ∧ LG.2 ≤ 3000000000) : (-3000000000 ≤ (stp ex f t LG).1 ∧ (stp ex f t LG).1 ≤ 3000000000) ∧ (-3000000000 ≤ (stp ex f t LG).2 ∧ (stp ex f t LG).2 ≤ 3000000000) := by
  unfold stp
  split
  · split
    · exact ⟨h3, h4⟩
    · exact ⟨by show _ ≤ min LG.1 f ∧ min LG.1 f ≤ _; omega, by show _ ≤ max LG.2 t ∧ max LG.2 t ≤ _; omega⟩
  · exact ⟨h3, h4⟩
theorem fac_ref {n N u o z : Nat} {B : aB} (hn : n ≤ 6) (hN : 40 ≤ N) (hu : u < n) (ho : o < n) (hz : z < n) (hB : aOK n B) {f0 t0 f1 t1 : Int} (h0 : fac0 n N u o z B f0 t0) (h1 : fac1 n N u o z B f1 t1) {cut empty : Int32} {box : Nat → Int32} (hR : aR n B empty cut box) : ∃ e' c' b', f_X8_keepsFactor N empty cut box (nI u) (nI o) (nI z) = some (e', c', b') ∧ aR n (aLeave u (stp (0 ≤ B.2.1 o) f0 t0 (stp (B.1 o < 0) f1 t1 (3000000000, -3000000000))).1 (stp (0 ≤ B.2.1 o) f0 t0 (stp (B.1 o < 0) f1 t1 (3000000000, -3000000000))).2 B) e' c' b' := by
  obtain ⟨pu1, pu2, pu3⟩ := hB u hu
  obtain ⟨po1, po2, po3⟩ := hB o ho
  have bu := aOK_in hB hu
  have bo := aOK_in hB ho
  have bz := aOK_in hB hz
  obtain ⟨f0b, t0b, -⟩ := id h0
  obtain ⟨f1b, t1b, -⟩ := id h1
  have w1 := stp_bnd (ex := B.1 o < 0) (f := f1) (t := t1) (LG := (3000000000, -3000000000)) (by omega) (by omega) (by decide) (by decide)
  have w0 := stp_bnd (ex := 0 ≤ B.2.1 o) (f := f0) (t := t0) (LG := stp (B.1 o < 0) f1 t1 (3000000000, -3000000000)) (by omega) (by omega) w1.1 w1.2
  unfold f_X8_keepsFactor
  by_cases he0 : B.2.2.2 = false
  · obtain ⟨e', c', b', hk, hr⟩ := y_keeps (f := (stp (0 ≤ B.2.1 o) f0 t0 (stp (B.1 o < 0) f1 t1 (3000000000, -3000000000))).1) (t := (stp (0 ≤ B.2.1 o) f0 t0 (stp (B.1 o < 0) f1 t1 (3000000000, -3000000000))).2) hn hu hB hR (by omega) (by omega) (by omega) (by omega)
    refine ⟨e', c', b', ?_, hr⟩
    have k149 := fac_k149 hn hN hu ho hz hB h0 hR (LG := stp (B.1 o < 0) f1 t1 (3000000000, -3000000000)) w1 (R := some (e', c', b')) (fun X Y hX hY => by
      unfold f_X8_keepsFactor_B282
      rw [hX, hY, hk, o_b3_some])
    rw [if_pos ((aR_e hR).mpr he0), y_low hn ho hR, o_b1_some]
    have hi0 := z_0le (p := B.1 o) (by omega) (by omega)
    by_cases h : B.1 o < 0
    · have k43 := fac_k43 hn hN hu ho hz hB h1 h hR k149
      rw [if_neg (fun x => hi0.mp x h), y_high hn ho hR, o_b1_some]
      have hih := z_0le (p := B.2.1 o) (by omega) (by omega)
      by_cases hh : B.2.1 o < 0
      · rw [if_neg (fun x => hih.mp x hh)]
        try rw [o_b1_some]
        exact k43 _ (by omega)
      · rw [if_pos (hih.mpr hh)]
        exact k43 (-1) (by omega)
    · rw [if_pos (hi0.mpr h)]
      have ev : stp (B.1 o < 0) f1 t1 (3000000000, -3000000000) = ((3000000000 : Int), (-3000000000 : Int)) := by
        unfold stp
        rw [if_neg h]
      rw [ev] at k149
      exact k149
  · rw [if_neg (fun x => he0 ((aR_e hR).mp x)), aLeave_e he0]
    exact ⟨_, _, _, rfl, hR⟩
theorem factor {n N u o z : Nat} {B : aB} (hn : n ≤ 6) (hN : 40 ≤ N) (hu : u < n) (ho : o < n) (hz : z < n) (hB : aOK n B) :
    ∃ f t : Int, (-2147482000 ≤ f ∧ f ≤ 2147482000) ∧ (-2147482000 ≤ t ∧ t ≤ 2147482000) ∧
      (∀ cut empty vl vh, aC n B cut empty vl vh → ∃ c' e' l' h', f_X0_cutFactor N cut empty vh vl (nI u) (nI o) (nI z) = some (c', e', h', l') ∧ aC n (aLeave u f t B) c' e' l' h') ∧
      (∀ empty cut box, aR n B empty cut box → ∃ e' c' b', f_X8_keepsFactor N empty cut box (nI u) (nI o) (nI z) = some (e', c', b') ∧ aR n (aLeave u f t B) e' c' b') := by
  obtain ⟨f0, t0, h0⟩ := fac0_ex hn hN hu ho hz hB
  obtain ⟨f1, t1, h1⟩ := fac1_ex hn hN hu ho hz hB
  obtain ⟨f0b, t0b, -⟩ := id h0
  obtain ⟨f1b, t1b, -⟩ := id h1
  have bu := aOK_in hB hu
  have s0 := stp_in (ex := 0 ≤ B.2.1 o) (LG := (B.2.1 u + 1, B.1 u - 1)) bu f0b t0b ⟨by show _ ≤ B.2.1 u + 1; omega, by show B.2.1 u + 1 ≤ _; omega⟩ ⟨by show _ ≤ B.1 u - 1; omega, by show B.1 u - 1 ≤ _; omega⟩
  have s1 := stp_in (ex := B.1 o < 0) (LG := stp (0 ≤ B.2.1 o) f0 t0 (B.2.1 u + 1, B.1 u - 1)) bu f1b t1b s0.1 s0.2
  refine ⟨_, _, s1.1, s1.2, fun cut empty vl vh hC => fac_class hn hN hu ho hz hB h0 h1 hC, fun empty cut box hR => ?_⟩
  have heq : aLeave u (stp (0 ≤ B.2.1 o) f0 t0 (stp (B.1 o < 0) f1 t1 (3000000000, -3000000000))).1 (stp (0 ≤ B.2.1 o) f0 t0 (stp (B.1 o < 0) f1 t1 (3000000000, -3000000000))).2 B = aLeave u (stp (B.1 o < 0) f1 t1 (stp (0 ≤ B.2.1 o) f0 t0 (B.2.1 u + 1, B.1 u - 1))).1 (stp (B.1 o < 0) f1 t1 (stp (0 ≤ B.2.1 o) f0 t0 (B.2.1 u + 1, B.1 u - 1))).2 B := by
    rcases stp_two (e0 := 0 ≤ B.2.1 o) (e1 := B.1 o < 0) bu f0b t0b f1b t1b with e | ⟨e, e'⟩
    · rw [e]
    · rw [e, e']
      refine aLeave_congr ⟨fun q => ?_, fun q => ?_⟩ (fun q => ?_)
      · have q' : max (B.1 u) 3000000000 ≤ min (B.2.1 u) (-3000000000) := q
        omega
      · have q' : max (B.1 u) (B.2.1 u + 1) ≤ min (B.2.1 u) (B.1 u - 1) := q
        omega
      · have q' : max (B.1 u) 3000000000 ≤ min (B.2.1 u) (-3000000000) := q
        omega
  rw [← heq]
  exact fac_ref hn hN hu ho hz hB h0 h1 hR
