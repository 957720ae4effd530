/-! a level as both sides read it, line by line -/
def zL (D Mn Gn Un bg : Nat) (l : Nat → Nat → Int32) (fr rd : Nat → Int32) : Prop :=
  zI_t D Mn Gn Un (l 4) (l 5) (l 6) (l 7) (l 8) (l 9) (l 10) (l 11) (l 12) (l 13) (l 14) (l 15) fr rd ∧ (∀ g, Gn ≤ g → g < 4 → l 13 g = 0 ∧ fr (49 + g) = 0 ∧ l 12 g = -2 ∧ rd (10 + g) = 0) ∧ fr 6 = nI bg ∧ (bg = 0 ∨ bg = 1) ∧ (bg = 0 → D = 0 ∧ Mn = 0 ∧ Gn = 0 ∧ Un = 0)
def zE (A C : Nat → Int32) : Prop := ∀ i, i < 53 → A i = C i
theorem zE.refl {A : Nat → Int32} : zE A A := fun _ _ => rfl
theorem zE.g {A C F : Nat → Int32} (h : A = C) (e : zE C F) : zE A F := by rw [h]; exact e
theorem zE.u {A C : Nat → Int32} {j : Nat} {x : Int32} (e : zE A C) : zE (upd A j x) (upd C j x) := by
  intro i hi
  by_cases hj : i = j
  · subst hj; rw [pk_us, pk_us]
  · rw [pk_un hj, pk_un hj]; exact e i hi
theorem zRN.u {S : Nat → Int64} {A : Nat → Int32} {j : Nat} {x : Int32} (hj : j < 53) (h : zRN S A) : zRN S (upd A j x) := by
  intro s hs
  rw [pk_un (show 53 + s ≠ j by omega)]
  rcases h s hs with q | ⟨L, q1, q2, q3, q4⟩
  · exact Or.inl q
  · have he : ∀ i, upd A j x (70 + 8 * s + i) = A (70 + 8 * s + i) := fun i => pk_un (show 70 + 8 * s + i ≠ j by omega)
    refine Or.inr ⟨L, q1, q2, fun i hi => ?_, ?_⟩
    · show zLt (upd A j x (70 + 8 * s + i))
      rw [he]; exact q3 i hi
    · rw [q4]
      exact zpk_eq L (fun i _ => (he i).symm)
section Z79Q
variable {D Mn Gn Un bg : Nat} {l : Nat → Nat → Int32} {fr fr' rd rd' : Nat → Int32}
theorem zL_level {x : Nat} (hx : x ≤ 100) (h : zL D Mn Gn Un bg l fr rd) (hO : ∀ i, i < 53 → i ≠ 0 → i ≠ 6 → fr' i = fr i) (e0 : fr' (0) = nI x) (e1 : fr' (6) = 1) : zL D Mn Gn Un 1 (zb l 4 (upd (l 4) 0 (nI x))) fr' rd := by
  obtain ⟨⟨c1, c2, c3, c4, c5, c6, c7, c8, ⟨s1, s2, s3, s4, s5, s6⟩⟩, hg, h6, hb, hz⟩ := h
  obtain ⟨a1, a2, a3, a4, a5, a6, a7, a8⟩ := c2
  refine ⟨⟨?k1, ?k2, ?k3, ?k4, ?k5, ?k6, ?k7, ?k8, ⟨?m1, ?m2, ?m3, ?m4, ?m5, ?m6⟩⟩, ?kg, ?k9, Or.inr rfl, fun z => absurd z (by decide)⟩
  case k1 => exact ⟨by omega, by omega, by omega, by omega⟩
  case k2 => exact ⟨a1, (hO (1) (by omega) (by omega) (by omega)).trans a2, a3, (hO (2) (by omega) (by omega) (by omega)).trans a4, a5, (hO (3) (by omega) (by omega) (by omega)).trans a6, a7, (hO (4) (by omega) (by omega) (by omega)).trans a8⟩
  case k3 => exact ⟨c3.1.trans (hO (5) (by omega) (by omega) (by omega)).symm, x, hx, rfl, e0⟩
  case k4 => 
    intro d hd
    rw [(hO (7 + 2 * d) (by omega) (by omega) (by omega)), (hO (7 + 2 * d + 1) (by omega) (by omega) (by omega))]
    exact c4 d hd
  case k5 => exact c5
  case k6 => 
    intro m hm
    rw [(hO (23 + 2 * m) (by omega) (by omega) (by omega)), (hO (23 + 2 * m + 1) (by omega) (by omega) (by omega))]
    exact c6 m hm
  case k7 => 
    intro g hg2
    rw [(hO (33 + 2 * g) (by omega) (by omega) (by omega)), (hO (33 + 2 * g + 1) (by omega) (by omega) (by omega)), (hO (49 + g) (by omega) (by omega) (by omega))]
    exact c7 g hg2
  case k8 => 
    intro u hu
    rw [(hO (41 + 2 * u) (by omega) (by omega) (by omega)), (hO (41 + 2 * u + 1) (by omega) (by omega) (by omega))]
    exact c8 u hu
  case m1 => exact s1
  case m2 => exact s2
  case m3 => exact s3
  case m4 => exact s4
  case m5 => exact s5
  case m6 => exact s6
  case kg => 
    intro g h1 h2
    rw [(hO (49 + g) (by omega) (by omega) (by omega))]
    exact hg g h1 h2
  case k9 => exact e1
theorem zL_danger {x y : Nat} (hD : D < 8) (hx : 1 ≤ x ∧ x ≤ 9) (hy : 1 ≤ y ∧ y ≤ 30) (h : zL D Mn Gn Un bg l fr rd) (hbg : bg = 1) (hO : ∀ i, i < 53 → i ≠ 1 → i ≠ 7 + 2 * D → i ≠ 7 + 2 * D + 1 → fr' i = fr i) (e0 : fr' (1) = nI (D + 1)) (e1 : fr' (7 + 2 * D) = nI x) (e2 : fr' (7 + 2 * D + 1) = nI y) : zL (D + 1) Mn Gn Un 1 (zb (zb (zb l 4 (upd (l 4) 1 (nI (D + 1)))) 5 (upd (l 5) D (nI x))) 6 (upd (l 6) D (nI y))) fr' rd := by
  obtain ⟨⟨c1, c2, c3, c4, c5, c6, c7, c8, ⟨s1, s2, s3, s4, s5, s6⟩⟩, hg, h6, hb, hz⟩ := h
  obtain ⟨a1, a2, a3, a4, a5, a6, a7, a8⟩ := c2
  refine ⟨⟨?k1, ?k2, ?k3, ?k4, ?k5, ?k6, ?k7, ?k8, ⟨?m1, ?m2, ?m3, ?m4, ?m5, ?m6⟩⟩, ?kg, ?k9, Or.inr rfl, fun z => absurd z (by decide)⟩
  case k1 => exact ⟨by omega, by omega, by omega, by omega⟩
  case k2 => exact ⟨rfl, e0, a3, (hO (2) (by omega) (by omega) (by omega) (by omega)).trans a4, a5, (hO (3) (by omega) (by omega) (by omega) (by omega)).trans a6, a7, (hO (4) (by omega) (by omega) (by omega) (by omega)).trans a8⟩
  case k3 => 
    obtain ⟨b1, hh, b2, b3, b4⟩ := c3
    exact ⟨b1.trans (hO (5) (by omega) (by omega) (by omega) (by omega)).symm, hh, b2, b3, (hO (0) (by omega) (by omega) (by omega) (by omega)).trans b4⟩
  case k4 => 
    intro d hd
    show upd (l 5) D (nI x) d = _ ∧ upd (l 6) D (nI y) d = _ ∧ _
    by_cases hdD : d = D
    · subst hdD
      rw [pk_us, pk_us, e1, e2]
      exact ⟨rfl, rfl, ⟨x, hx.1, hx.2, rfl⟩, y, hy.1, hy.2, rfl⟩
    · rw [pk_un hdD, pk_un hdD, (hO (7 + 2 * d) (by omega) (by omega) (by omega) (by omega)), (hO (7 + 2 * d + 1) (by omega) (by omega) (by omega) (by omega))]
      exact c4 d (by omega)
  case k5 => exact c5
  case k6 => 
    intro m hm
    rw [(hO (23 + 2 * m) (by omega) (by omega) (by omega) (by omega)), (hO (23 + 2 * m + 1) (by omega) (by omega) (by omega) (by omega))]
    exact c6 m hm
  case k7 => 
    intro g hg2
    rw [(hO (33 + 2 * g) (by omega) (by omega) (by omega) (by omega)), (hO (33 + 2 * g + 1) (by omega) (by omega) (by omega) (by omega)), (hO (49 + g) (by omega) (by omega) (by omega) (by omega))]
    obtain ⟨g1, g2, ⟨T, t1, t2⟩, g4⟩ := c7 g hg2
    exact ⟨g1, g2, ⟨T, Nat.lt_of_lt_of_le t1 (Nat.pow_le_pow_right (by decide) (by omega)), t2⟩, g4⟩
  case k8 => 
    intro u hu
    rw [(hO (41 + 2 * u) (by omega) (by omega) (by omega) (by omega)), (hO (41 + 2 * u + 1) (by omega) (by omega) (by omega) (by omega))]
    obtain ⟨g1, g2, g3, y', y1, y2⟩ := c8 u hu
    exact ⟨g1, g2, g3, y', by omega, y2⟩
  case m1 => exact s1
  case m2 => exact s2
  case m3 => exact s3
  case m4 => exact s4
  case m5 => 
    intro m hm
    obtain ⟨g1, T, t1, t2⟩ := s5 m hm
    exact ⟨g1, T, Nat.lt_of_lt_of_le t1 (Nat.pow_le_pow_right (by decide) (by omega)), t2⟩
  case m6 => exact s6
  case kg => 
    intro g h1 h2
    rw [(hO (49 + g) (by omega) (by omega) (by omega) (by omega))]
    exact hg g h1 h2
  case k9 => exact (hO (6) (by omega) (by omega) (by omega) (by omega)).trans (h6.trans (by rw [hbg]))
theorem zL_maker {x y T : Nat} (hM5 : Mn < 5) (hx : x < 3) (hy : 1 ≤ y ∧ y ≤ 30) (hT : T < 2 ^ D) (h : zL D Mn Gn Un bg l fr rd) (hbg : bg = 1) (hO : ∀ i, i < 53 → i ≠ 2 → i ≠ 23 + 2 * Mn → i ≠ 23 + 2 * Mn + 1 → fr' i = fr i) (e0 : fr' (2) = nI (Mn + 1)) (e1 : fr' (23 + 2 * Mn) = nI x) (e2 : fr' (23 + 2 * Mn + 1) = nI y) (rO : ∀ i, i < 16 → i ≠ Mn → i ≠ 5 + Mn → rd' i = rd i) (q0 : rd' (Mn) = nI y) (q1 : rd' (5 + Mn) = nI T) : zL D (Mn + 1) Gn Un 1 (zb (zb (zb (zb l 4 (upd (l 4) 4 (nI (Mn + 1)))) 7 (upd (l 7) Mn (nI x))) 8 (upd (l 8) Mn (nI y))) 9 (upd (l 9) Mn (nI T))) fr' rd' := by
  obtain ⟨⟨c1, c2, c3, c4, c5, c6, c7, c8, ⟨s1, s2, s3, s4, s5, s6⟩⟩, hg, h6, hb, hz⟩ := h
  obtain ⟨a1, a2, a3, a4, a5, a6, a7, a8⟩ := c2
  refine ⟨⟨?k1, ?k2, ?k3, ?k4, ?k5, ?k6, ?k7, ?k8, ⟨?m1, ?m2, ?m3, ?m4, ?m5, ?m6⟩⟩, ?kg, ?k9, Or.inr rfl, fun z => absurd z (by decide)⟩
  case k1 => exact ⟨by omega, by omega, by omega, by omega⟩
  case k2 => exact ⟨a1, (hO (1) (by omega) (by omega) (by omega) (by omega)).trans a2, rfl, e0, a5, (hO (3) (by omega) (by omega) (by omega) (by omega)).trans a6, a7, (hO (4) (by omega) (by omega) (by omega) (by omega)).trans a8⟩
  case k3 => 
    obtain ⟨b1, hh, b2, b3, b4⟩ := c3
    exact ⟨b1.trans (hO (5) (by omega) (by omega) (by omega) (by omega)).symm, hh, b2, b3, (hO (0) (by omega) (by omega) (by omega) (by omega)).trans b4⟩
  case k4 => 
    intro d hd
    rw [(hO (7 + 2 * d) (by omega) (by omega) (by omega) (by omega)), (hO (7 + 2 * d + 1) (by omega) (by omega) (by omega) (by omega))]
    exact c4 d hd
  case k5 => exact zq7 c5 hx
  case k6 => 
    intro m hm
    show upd (l 7) Mn (nI x) m = _ ∧ upd (l 8) Mn (nI y) m = _
    by_cases hmM : m = Mn
    · subst hmM
      rw [pk_us, pk_us, e1, e2]
      exact ⟨rfl, rfl⟩
    · rw [pk_un hmM, pk_un hmM, (hO (23 + 2 * m) (by omega) (by omega) (by omega) (by omega)), (hO (23 + 2 * m + 1) (by omega) (by omega) (by omega) (by omega))]
      exact c6 m (by omega)
  case k7 => 
    intro g hg2
    rw [(hO (33 + 2 * g) (by omega) (by omega) (by omega) (by omega)), (hO (33 + 2 * g + 1) (by omega) (by omega) (by omega) (by omega)), (hO (49 + g) (by omega) (by omega) (by omega) (by omega))]
    exact c7 g hg2
  case k8 => 
    intro u hu
    rw [(hO (41 + 2 * u) (by omega) (by omega) (by omega) (by omega)), (hO (41 + 2 * u + 1) (by omega) (by omega) (by omega) (by omega))]
    obtain ⟨g1, g2, ⟨x', x1, x2⟩, g4⟩ := c8 u hu
    exact ⟨g1, g2, ⟨x', by omega, x2⟩, g4⟩
  case m1 => 
    obtain ⟨Y, y1, y2, y3⟩ := s1
    exact ⟨Y, y1, y2, (rO (15) (by omega) (by omega) (by omega)).trans y3⟩
  case m2 => exact s2.trans (rO (14) (by omega) (by omega) (by omega)).symm
  case m3 => 
    intro g hg2
    rw [(rO (10 + g) (by omega) (by omega) (by omega))]
    rcases s3 g hg2 with q | ⟨e, q1, q2⟩
    · exact Or.inl q
    · exact Or.inr ⟨e, by omega, q2⟩
  case m4 => 
    intro a b ha hb2 hab
    rw [(rO (10 + a) (by omega) (by omega) (by omega)), (rO (10 + b) (by omega) (by omega) (by omega))]
    exact s4 a b ha hb2 hab
  case m5 => 
    intro m hm
    show upd (l 9) Mn (nI T) m = _ ∧ _
    by_cases hmM : m = Mn
    · subst hmM
      rw [pk_us, q1]
      exact ⟨rfl, T, hT, rfl⟩
    · rw [pk_un hmM, (rO (5 + m) (by omega) (by omega) (by omega))]
      exact s5 m (by omega)
  case m6 => 
    intro m hm
    show upd (l 8) Mn (nI y) m = _ ∧ _
    by_cases hmM : m = Mn
    · subst hmM
      rw [pk_us, q0]
      exact ⟨rfl, y, hy.2, rfl⟩
    · rw [pk_un hmM, (rO (m) (by omega) (by omega) (by omega))]
      exact s6 m (by omega)
  case kg => 
    intro g h1 h2
    rw [(hO (49 + g) (by omega) (by omega) (by omega) (by omega)), (rO (10 + g) (by omega) (by omega) (by omega))]
    exact hg g h1 h2
  case k9 => exact (hO (6) (by omega) (by omega) (by omega) (by omega)).trans (h6.trans (by rw [hbg]))
theorem zL_good {x T : Nat} (hG4 : Gn < 4) (hx : 1 ≤ x ∧ x ≤ 99) (hT : T < 2 ^ D) (h : zL D Mn Gn Un bg l fr rd) (hbg : bg = 1) (hO : ∀ i, i < 53 → i ≠ 3 → i ≠ 33 + 2 * Gn → i ≠ 33 + 2 * Gn + 1 → fr' i = fr i) (e0 : fr' (3) = nI (Gn + 1)) (e1 : fr' (33 + 2 * Gn) = nI x) (e2 : fr' (33 + 2 * Gn + 1) = nI T) : zL D Mn (Gn + 1) Un 1 (zb (zb (zb l 4 (upd (l 4) 8 (nI (Gn + 1)))) 10 (upd (l 10) Gn (nI x))) 11 (upd (l 11) Gn (nI T))) fr' rd := by
  obtain ⟨⟨c1, c2, c3, c4, c5, c6, c7, c8, ⟨s1, s2, s3, s4, s5, s6⟩⟩, hg, h6, hb, hz⟩ := h
  obtain ⟨a1, a2, a3, a4, a5, a6, a7, a8⟩ := c2
  refine ⟨⟨?k1, ?k2, ?k3, ?k4, ?k5, ?k6, ?k7, ?k8, ⟨?m1, ?m2, ?m3, ?m4, ?m5, ?m6⟩⟩, ?kg, ?k9, Or.inr rfl, fun z => absurd z (by decide)⟩
  case k1 => exact ⟨by omega, by omega, by omega, by omega⟩
  case k2 => exact ⟨a1, (hO (1) (by omega) (by omega) (by omega) (by omega)).trans a2, a3, (hO (2) (by omega) (by omega) (by omega) (by omega)).trans a4, rfl, e0, a7, (hO (4) (by omega) (by omega) (by omega) (by omega)).trans a8⟩
  case k3 => 
    obtain ⟨b1, hh, b2, b3, b4⟩ := c3
    exact ⟨b1.trans (hO (5) (by omega) (by omega) (by omega) (by omega)).symm, hh, b2, b3, (hO (0) (by omega) (by omega) (by omega) (by omega)).trans b4⟩
  case k4 => 
    intro d hd
    rw [(hO (7 + 2 * d) (by omega) (by omega) (by omega) (by omega)), (hO (7 + 2 * d + 1) (by omega) (by omega) (by omega) (by omega))]
    exact c4 d hd
  case k5 => exact c5
  case k6 => 
    intro m hm
    rw [(hO (23 + 2 * m) (by omega) (by omega) (by omega) (by omega)), (hO (23 + 2 * m + 1) (by omega) (by omega) (by omega) (by omega))]
    exact c6 m hm
  case k7 => 
    intro g hg2
    show (upd (l 10) Gn (nI x) g = _ ∧ upd (l 11) Gn (nI T) g = _) ∧ _
    by_cases hgG : g = Gn
    · subst hgG
      obtain ⟨w1, w2, _, _⟩ := hg g (Nat.le_refl _) (by omega)
      rw [pk_us, pk_us, e1, e2, (hO (49 + g) (by omega) (by omega) (by omega) (by omega))]
      exact ⟨⟨rfl, rfl⟩, ⟨x, hx.1, hx.2, rfl⟩, ⟨T, hT, rfl⟩, w1.trans w2.symm, 0, by decide, w2⟩
    · rw [pk_un hgG, pk_un hgG, (hO (33 + 2 * g) (by omega) (by omega) (by omega) (by omega)), (hO (33 + 2 * g + 1) (by omega) (by omega) (by omega) (by omega)), (hO (49 + g) (by omega) (by omega) (by omega) (by omega))]
      exact c7 g (by omega)
  case k8 => 
    intro u hu
    rw [(hO (41 + 2 * u) (by omega) (by omega) (by omega) (by omega)), (hO (41 + 2 * u + 1) (by omega) (by omega) (by omega) (by omega))]
    exact c8 u hu
  case m1 => exact s1
  case m2 => exact s2
  case m3 => 
    intro g hg2
    by_cases hgG : g = Gn
    · subst hgG
      obtain ⟨_, _, w3, w4⟩ := hg g (Nat.le_refl _) (by omega)
      exact Or.inl ⟨w4, w3⟩
    · exact s3 g (by omega)
  case m4 => 
    intro a b ha hb2 hab he
    by_cases haG : a = Gn
    · subst haG
      exact (hg a (Nat.le_refl _) (by omega)).2.2.2
    · by_cases hbG : b = Gn
      · subst hbG
        exact he.trans (hg b (Nat.le_refl _) (by omega)).2.2.2
      · exact s4 a b (by omega) (by omega) hab he
  case m5 => exact s5
  case m6 => exact s6
  case kg => 
    intro g h1 h2
    rw [(hO (49 + g) (by omega) (by omega) (by omega) (by omega))]
    exact hg g (by omega) h2
  case k9 => exact (hO (6) (by omega) (by omega) (by omega) (by omega)).trans (h6.trans (by rw [hbg]))
theorem zL_in {x y : Nat} (h : zL D Mn Gn Un bg l fr rd) (hbg : bg = 1) (hx : x < Gn) (hy : y < Mn) (hfree : ∀ g, g < Gn → rd (10 + g) ≠ nI (y + 1)) (hE : zE fr' fr) (rO : ∀ i, i < 16 → i ≠ 10 + x → rd' i = rd i) (q0 : rd' (10 + x) = nI (y + 1)) : zL D Mn Gn Un 1 (zb l 12 (upd (l 12) x (nI y))) fr' rd' := by
  obtain ⟨⟨c1, c2, c3, c4, c5, c6, c7, c8, ⟨s1, s2, s3, s4, s5, s6⟩⟩, hg, h6, hb, hz⟩ := h
  obtain ⟨a1, a2, a3, a4, a5, a6, a7, a8⟩ := c2
  have hO : ∀ i, i < 53 → fr' i = fr i := hE
  refine ⟨⟨?k1, ?k2, ?k3, ?k4, ?k5, ?k6, ?k7, ?k8, ⟨?m1, ?m2, ?m3, ?m4, ?m5, ?m6⟩⟩, ?kg, ?k9, Or.inr rfl, fun z => absurd z (by decide)⟩
  case k1 => exact ⟨by omega, by omega, by omega, by omega⟩
  case k2 => exact ⟨a1, (hO (1) (by omega)).trans a2, a3, (hO (2) (by omega)).trans a4, a5, (hO (3) (by omega)).trans a6, a7, (hO (4) (by omega)).trans a8⟩
  case k3 => 
    obtain ⟨b1, hh, b2, b3, b4⟩ := c3
    exact ⟨b1.trans (hO (5) (by omega)).symm, hh, b2, b3, (hO (0) (by omega)).trans b4⟩
  case k4 => 
    intro d hd
    rw [(hO (7 + 2 * d) (by omega)), (hO (7 + 2 * d + 1) (by omega))]
    exact c4 d hd
  case k5 => exact c5
  case k6 => 
    intro m hm
    rw [(hO (23 + 2 * m) (by omega)), (hO (23 + 2 * m + 1) (by omega))]
    exact c6 m hm
  case k7 => 
    intro g hg2
    rw [(hO (33 + 2 * g) (by omega)), (hO (33 + 2 * g + 1) (by omega)), (hO (49 + g) (by omega))]
    exact c7 g hg2
  case k8 => 
    intro u hu
    rw [(hO (41 + 2 * u) (by omega)), (hO (41 + 2 * u + 1) (by omega))]
    exact c8 u hu
  case m1 => 
    obtain ⟨Y, y1, y2, y3⟩ := s1
    exact ⟨Y, y1, y2, (rO (15) (by omega) (by omega)).trans y3⟩
  case m2 => exact s2.trans (rO (14) (by omega) (by omega)).symm
  case m3 => 
    intro g hg2
    show (_ ∧ upd (l 12) x (nI y) g = -2) ∨ ∃ e, _ ∧ _ ∧ upd (l 12) x (nI y) g = nI e
    by_cases hgx : g = x
    · subst hgx
      rw [pk_us]
      exact Or.inr ⟨y, hy, q0, rfl⟩
    · rw [pk_un hgx, (rO (10 + g) (by omega) (by omega))]
      exact s3 g hg2
  case m4 => 
    intro a b ha hb2 hab he
    by_cases hax : a = x
    · subst hax
      rw [q0, (rO (10 + b) (by omega) (by omega))] at he
      exact absurd he.symm (hfree b hb2)
    · rw [(rO (10 + a) (by omega) (by omega))] at he ⊢
      by_cases hbx : b = x
      · subst hbx
        rw [q0] at he
        exact absurd he (hfree a ha)
      · rw [(rO (10 + b) (by omega) (by omega))] at he
        exact s4 a b ha hb2 hab he
  case m5 => 
    intro m hm
    rw [(rO (5 + m) (by omega) (by omega))]
    exact s5 m hm
  case m6 => 
    intro m hm
    rw [(rO (m) (by omega) (by omega))]
    exact s6 m hm
  case kg => 
    intro g h1 h2
    show _ ∧ _ ∧ upd (l 12) x (nI y) g = _ ∧ _
    rw [(hO (49 + g) (by omega)), (rO (10 + g) (by omega) (by omega)), pk_un (show g ≠ x by omega)]
    exact hg g h1 h2
  case k9 => exact (hO (6) (by omega)).trans (h6.trans (by rw [hbg]))
theorem zL_unsure {x y : Nat} (hU4 : Un < 4) (hx : x < Mn) (hy : y < D) (h : zL D Mn Gn Un bg l fr rd) (hbg : bg = 1) (hO : ∀ i, i < 53 → i ≠ 4 → i ≠ 41 + 2 * Un → i ≠ 41 + 2 * Un + 1 → fr' i = fr i) (e0 : fr' (4) = nI (Un + 1)) (e1 : fr' (41 + 2 * Un) = nI x) (e2 : fr' (41 + 2 * Un + 1) = nI y) : zL D Mn Gn (Un + 1) 1 (zb (zb (zb l 4 (upd (l 4) 14 (nI (Un + 1)))) 14 (upd (l 14) Un (nI x))) 15 (upd (l 15) Un (nI y))) fr' rd := by
  obtain ⟨⟨c1, c2, c3, c4, c5, c6, c7, c8, ⟨s1, s2, s3, s4, s5, s6⟩⟩, hg, h6, hb, hz⟩ := h
  obtain ⟨a1, a2, a3, a4, a5, a6, a7, a8⟩ := c2
  refine ⟨⟨?k1, ?k2, ?k3, ?k4, ?k5, ?k6, ?k7, ?k8, ⟨?m1, ?m2, ?m3, ?m4, ?m5, ?m6⟩⟩, ?kg, ?k9, Or.inr rfl, fun z => absurd z (by decide)⟩
  case k1 => exact ⟨by omega, by omega, by omega, by omega⟩
  case k2 => exact ⟨a1, (hO (1) (by omega) (by omega) (by omega) (by omega)).trans a2, a3, (hO (2) (by omega) (by omega) (by omega) (by omega)).trans a4, a5, (hO (3) (by omega) (by omega) (by omega) (by omega)).trans a6, rfl, e0⟩
  case k3 => 
    obtain ⟨b1, hh, b2, b3, b4⟩ := c3
    exact ⟨b1.trans (hO (5) (by omega) (by omega) (by omega) (by omega)).symm, hh, b2, b3, (hO (0) (by omega) (by omega) (by omega) (by omega)).trans b4⟩
  case k4 => 
    intro d hd
    rw [(hO (7 + 2 * d) (by omega) (by omega) (by omega) (by omega)), (hO (7 + 2 * d + 1) (by omega) (by omega) (by omega) (by omega))]
    exact c4 d hd
  case k5 => exact c5
  case k6 => 
    intro m hm
    rw [(hO (23 + 2 * m) (by omega) (by omega) (by omega) (by omega)), (hO (23 + 2 * m + 1) (by omega) (by omega) (by omega) (by omega))]
    exact c6 m hm
  case k7 => 
    intro g hg2
    rw [(hO (33 + 2 * g) (by omega) (by omega) (by omega) (by omega)), (hO (33 + 2 * g + 1) (by omega) (by omega) (by omega) (by omega)), (hO (49 + g) (by omega) (by omega) (by omega) (by omega))]
    exact c7 g hg2
  case k8 => 
    intro u hu
    show upd (l 14) Un (nI x) u = _ ∧ upd (l 15) Un (nI y) u = _ ∧ _
    by_cases huU : u = Un
    · subst huU
      rw [pk_us, pk_us, e1, e2]
      exact ⟨rfl, rfl, ⟨x, hx, rfl⟩, y, hy, rfl⟩
    · rw [pk_un huU, pk_un huU, (hO (41 + 2 * u) (by omega) (by omega) (by omega) (by omega)), (hO (41 + 2 * u + 1) (by omega) (by omega) (by omega) (by omega))]
      exact c8 u (by omega)
  case m1 => exact s1
  case m2 => exact s2
  case m3 => exact s3
  case m4 => exact s4
  case m5 => exact s5
  case m6 => exact s6
  case kg => 
    intro g h1 h2
    rw [(hO (49 + g) (by omega) (by omega) (by omega) (by omega))]
    exact hg g h1 h2
  case k9 => exact (hO (6) (by omega) (by omega) (by omega) (by omega)).trans (h6.trans (by rw [hbg]))
theorem zL_befell {x y : Nat} (hx : x < Gn) (hy : 1 ≤ y ∧ y ≤ 40) (h : zL D Mn Gn Un bg l fr rd) (hbg : bg = 1) (hO : ∀ i, i < 53 → i ≠ 5 → i ≠ 49 + x → fr' i = fr i) (e0 : fr' (5) = fr 5 + 1) (e1 : fr' (49 + x) = nI y) : zL D Mn Gn Un 1 (zb (zb l 4 (upd (l 4) 13 ((l 4) 13 + 1))) 13 (upd (l 13) x (nI y))) fr' rd := by
  obtain ⟨⟨c1, c2, c3, c4, c5, c6, c7, c8, ⟨s1, s2, s3, s4, s5, s6⟩⟩, hg, h6, hb, hz⟩ := h
  obtain ⟨a1, a2, a3, a4, a5, a6, a7, a8⟩ := c2
  refine ⟨⟨?k1, ?k2, ?k3, ?k4, ?k5, ?k6, ?k7, ?k8, ⟨?m1, ?m2, ?m3, ?m4, ?m5, ?m6⟩⟩, ?kg, ?k9, Or.inr rfl, fun z => absurd z (by decide)⟩
  case k1 => exact ⟨by omega, by omega, by omega, by omega⟩
  case k2 => exact ⟨a1, (hO (1) (by omega) (by omega) (by omega)).trans a2, a3, (hO (2) (by omega) (by omega) (by omega)).trans a4, a5, (hO (3) (by omega) (by omega) (by omega)).trans a6, a7, (hO (4) (by omega) (by omega) (by omega)).trans a8⟩
  case k3 => 
    obtain ⟨b1, hh, b2, b3, b4⟩ := c3
    refine ⟨?_, hh, b2, b3, (hO (0) (by omega) (by omega) (by omega)).trans b4⟩
    show l 4 13 + 1 = fr' 5
    rw [e0, b1]
  case k4 => 
    intro d hd
    rw [(hO (7 + 2 * d) (by omega) (by omega) (by omega)), (hO (7 + 2 * d + 1) (by omega) (by omega) (by omega))]
    exact c4 d hd
  case k5 => exact c5
  case k6 => 
    intro m hm
    rw [(hO (23 + 2 * m) (by omega) (by omega) (by omega)), (hO (23 + 2 * m + 1) (by omega) (by omega) (by omega))]
    exact c6 m hm
  case k7 => 
    intro g hg2
    show _ ∧ _ ∧ _ ∧ upd (l 13) x (nI y) g = _ ∧ _
    rw [(hO (33 + 2 * g) (by omega) (by omega) (by omega)), (hO (33 + 2 * g + 1) (by omega) (by omega) (by omega))]
    obtain ⟨g1, g2, g3, g4, g5⟩ := c7 g hg2
    refine ⟨g1, g2, g3, ?_⟩
    by_cases hgx : g = x
    · subst hgx
      rw [pk_us, e1]
      exact ⟨rfl, y, hy.2, rfl⟩
    · rw [pk_un hgx, (hO (49 + g) (by omega) (by omega) (by omega))]
      exact ⟨g4, g5⟩
  case k8 => 
    intro u hu
    rw [(hO (41 + 2 * u) (by omega) (by omega) (by omega)), (hO (41 + 2 * u + 1) (by omega) (by omega) (by omega))]
    exact c8 u hu
  case m1 => exact s1
  case m2 => exact s2
  case m3 => exact s3
  case m4 => exact s4
  case m5 => exact s5
  case m6 => exact s6
  case kg => 
    intro g h1 h2
    show upd (l 13) x (nI y) g = _ ∧ _
    rw [(hO (49 + g) (by omega) (by omega) (by omega)), pk_un (show g ≠ x by omega)]
    exact hg g h1 h2
  case k9 => exact (hO (6) (by omega) (by omega) (by omega)).trans (h6.trans (by rw [hbg]))
end Z79Q
