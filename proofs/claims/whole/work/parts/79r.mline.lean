/-! the reference's lines beside the abstract ones -/
def zMk (v v' : Nat → Nat → Int32) : Prop := (∀ r, r ≠ 68 → r ≠ 70 → r ≠ 72 → r ≠ 74 → v' r = v r) ∧ ∀ j, j < 4 ∨ 8 < j → j ≠ 9 → j ≠ 10 → j ≠ 13 → v' 68 j = v 68 j
theorem zMk.refl {u : Nat → Nat → Int32} : zMk u u := ⟨fun _ _ _ _ _ => rfl, fun _ _ _ _ _ => rfl⟩
theorem zMk.step {u v x : Nat → Nat → Int32} (h1 : zMk u v) (h2 : zMg v x) : zMk u x := ⟨fun r a b c d => (h2.1 r a b).trans (h1.1 r a b c d), fun j a b c d => (h2.2 j a b c d).trans (h1.2 j a b c d)⟩
theorem zMk.steph {u v x : Nat → Nat → Int32} (h1 : zMk u v) (h2 : zMh v x) : zMk u x := ⟨fun r a b c d => (h2.1 r a b c).trans (h1.1 r a b c d), fun j a b c d => (h2.2 j a b c d).trans (h1.2 j a b c d)⟩
theorem zMk.trans {u v x : Nat → Nat → Int32} (h1 : zMk u v) (h2 : zMk v x) : zMk u x := ⟨fun r a b c d => (h2.1 r a b c d).trans (h1.1 r a b c d), fun j a b c d => (h2.2 j a b c d).trans (h1.2 j a b c d)⟩
theorem zMk.b72 {u v : Nat → Nat → Int32} {X : Nat → Int32} (h : zMk u v) : zMk u (zb v 72 X) := ⟨fun r a b c d => (zb_un c).trans (h.1 r a b c d), h.2⟩
theorem zMk.b74 {u v : Nat → Nat → Int32} {X : Nat → Int32} (h : zMk u v) : zMk u (zb v 74 X) := ⟨fun r a b c d => (zb_un d).trans (h.1 r a b c d), h.2⟩
def zML (tn : Nat → Nat) (ts : Nat → Int32) (tp : Nat → Nat) (tv : Nat → Int64) (E : Nat) (B : Nat → Int32) (res : (Nat × (Nat × Nat × Nat × Nat × Nat) × (Nat → Nat → Int32) × (Nat → Int64)) ⊕ (Int32 × Nat)) (u u' : Nat → Nat → Int32) : Prop := zMk u u' ∧ match res with
  | .inl (k, (D, Mn, Gn, Un, bg), l, S) => zMs tn ts tp tv E B k u' ∧ zRN S (u' 72) ∧ zL D Mn Gn Un bg l (u' 72) (u' 74)
  | .inr (f, p) => zMx f p u'
theorem zp_aft_cases (tn : Nat → Nat) (ts : Nat → Int32) (tp : Nat → Nat) (tv : Nat → Int64) (c : Int64) (lo hi k : Nat) : (∃ k1 k2 x, zp_kw tn ts tp tv c k = .inl k1 ∧ zp_num tn ts tp tv lo hi k1 = .inl (k2, x) ∧ zp_aft tn ts tp tv c lo hi k = .inl (k2, x)) ∨ (∃ f p, zp_kw tn ts tp tv c k = .inr (f, p) ∧ zp_aft tn ts tp tv c lo hi k = .inr (f, p)) ∨ ∃ k1 f p, zp_kw tn ts tp tv c k = .inl k1 ∧ zp_num tn ts tp tv lo hi k1 = .inr (f, p) ∧ zp_aft tn ts tp tv c lo hi k = .inr (f, p) := by
  unfold zp_aft
  cases h1 : zp_kw tn ts tp tv c k with
  | inr e => exact Or.inr (Or.inl ⟨e.1, e.2, rfl, rfl⟩)
  | inl k1 =>
    cases h2 : zp_num tn ts tp tv lo hi k1 with
    | inr e => exact Or.inr (Or.inr ⟨k1, e.1, e.2, rfl, h2, h2⟩)
    | inl r => exact Or.inl ⟨k1, r.1, r.2, rfl, h2, h2⟩
theorem zp_dgs_cases (tn : Nat → Nat) (ts : Nat → Int32) (tp : Nat → Nat) (tv : Nat → Int64) (c : Int64) (S : Nat → Int64) (k : Nat) : (∃ k1 k2 b, zp_kw tn ts tp tv c k = .inl k1 ∧ zp_dng tn ts tp tv S 9 0 k1 = .inl (k2, b) ∧ zp_dgs tn ts tp tv c S k = .inl (k2, b)) ∨ (∃ f p, zp_kw tn ts tp tv c k = .inr (f, p) ∧ zp_dgs tn ts tp tv c S k = .inr (f, p)) ∨ ∃ k1 f p, zp_kw tn ts tp tv c k = .inl k1 ∧ zp_dng tn ts tp tv S 9 0 k1 = .inr (f, p) ∧ zp_dgs tn ts tp tv c S k = .inr (f, p) := by
  unfold zp_dgs
  cases h1 : zp_kw tn ts tp tv c k with
  | inr e => exact Or.inr (Or.inl ⟨e.1, e.2, rfl, rfl⟩)
  | inl k1 =>
    cases h2 : zp_dng tn ts tp tv S 9 0 k1 with
    | inr e => exact Or.inr (Or.inr ⟨k1, e.1, e.2, rfl, h2, h2⟩)
    | inl r => exact Or.inl ⟨k1, r.1, r.2, rfl, h2, h2⟩
theorem zp_num_in {tn : Nat → Nat} {ts : Nat → Int32} {tp : Nat → Nat} {tv : Nat → Int64} {lo hi k k1 x : Nat} (hz : zp_num tn ts tp tv lo hi k = .inl (k1, x)) : lo ≤ x ∧ x ≤ hi := by
  unfold zp_num at hz
  split at hz
  · split at hz
    · rename_i hc
      cases hz
      exact hc
    · cases hz
  · cases hz
theorem zp_kw_E {tn : Nat → Nat} {ts : Nat → Int32} {tp : Nat → Nat} {tv : Nat → Int64} {c : Int64} {E k k1 : Nat} (hE : ∀ k, k ≤ E → tn k ≤ E) (hk : k ≤ E) (hz : zp_kw tn ts tp tv c k = .inl k1) : k1 ≤ E := by
  unfold zp_kw at hz
  split at hz
  · cases hz; exact hE k hk
  · cases hz
/-- which slots are told -/
def zSr (D Mn Gn : Nat) (S : Nat → Int64) : Prop := ∀ s, s < 17 → S s ≠ 0 → s < D ∨ (8 ≤ s ∧ s < 8 + Mn) ∨ (13 ≤ s ∧ s < 13 + Gn)
theorem zSr_see {tn : Nat → Nat} {ts : Nat → Int32} {tp : Nat → Nat} {tv : Nat → Int64} {E D Mn Gn lo hi k x : Nat} {S : Nat → Int64} (hS : zSr D Mn Gn S) (hT : zt_ok tn ts tv E) (hk : k ≤ E) (hz : zp_see tn ts tp tv lo hi S k = .inl x) : lo + x < hi ∧ (lo + x < D ∨ (8 ≤ lo + x ∧ lo + x < 8 + Mn) ∨ (13 ≤ lo + x ∧ lo + x < 13 + Gn)) := by
  obtain ⟨h1, h2, h3, h4⟩ := zp_see_lt hz
  exact ⟨h1, hS (lo + x) h4 (by rw [h2]; exact hT.1 k hk h3)⟩
theorem zr_bt_is (n : Nat) (f : Nat → Int32) (x : Int32) : zr_bt n f x = 0 ↔ ∀ g, g < n → f g ≠ x := by
  have key : ∀ (m i : Nat), (zfr (zl_btG f x) m i () = .inl () ∧ ∀ g, i ≤ g → g < i + m → f g ≠ x) ∨ (zfr (zl_btG f x) m i () = .inr 1 ∧ ∃ g, i ≤ g ∧ g < i + m ∧ f g = x) := by
    intro m
    induction m with
    | zero => intro i; exact Or.inl ⟨rfl, fun g h1 h2 => by omega⟩
    | succ m ih =>
      intro i
      by_cases h : f i = x
      · exact Or.inr ⟨zfr_r (if_pos h), i, Nat.le_refl _, by omega, h⟩
      · rw [zfr_l (show zl_btG f x i () = .inl () from if_neg h)]
        rcases ih (i + 1) with ⟨h1, h2⟩ | ⟨h1, g, h2, h3, h4⟩
        · refine Or.inl ⟨h1, fun g q1 q2 => ?_⟩
          by_cases hg : g = i
          · subst hg; exact h
          · exact h2 g (by omega) (by omega)
        · exact Or.inr ⟨h1, g, by omega, by omega, h4⟩
  unfold zr_bt
  rcases key n 0 with ⟨h1, h2⟩ | ⟨h1, g, h2, h3, h4⟩
  · rw [h1]
    exact ⟨fun _ g hg => h2 g (by omega) (by omega), fun _ => rfl⟩
  · rw [h1]
    exact ⟨fun z => absurd z (by decide), fun z => absurd h4 (z g (by omega))⟩
theorem zr_iu_is (n : Nat) (f f2 : Nat → Int32) (x y : Int32) : zr_iu n f f2 x y = 0 ↔ ∀ g, g < n → ¬ (f g = x ∧ f2 g = y) := by
  have key : ∀ (m i : Nat), (zfr (zl_iuG f f2 x y) m i () = .inl () ∧ ∀ g, i ≤ g → g < i + m → ¬ (f g = x ∧ f2 g = y)) ∨ (zfr (zl_iuG f f2 x y) m i () = .inr 1 ∧ ∃ g, i ≤ g ∧ g < i + m ∧ (f g = x ∧ f2 g = y)) := by
    intro m
    induction m with
    | zero => intro i; exact Or.inl ⟨rfl, fun g h1 h2 => by omega⟩
    | succ m ih =>
      intro i
      by_cases h : f i = x ∧ f2 i = y
      · exact Or.inr ⟨zfr_r (show (if f i = x then (if f2 i = y then Sum.inr 1 else .inl ()) else .inl () : Unit ⊕ Int32) = _ by rw [if_pos h.1, if_pos h.2]), i, Nat.le_refl _, by omega, h⟩
      · rw [zfr_l (show zl_iuG f f2 x y i () = .inl () by
          show (if f i = x then (if f2 i = y then Sum.inr 1 else .inl ()) else .inl () : Unit ⊕ Int32) = _
          by_cases a1 : f i = x
          · rw [if_pos a1, if_neg (fun z => h ⟨a1, z⟩)]
          · rw [if_neg a1])]
        rcases ih (i + 1) with ⟨h1, h2⟩ | ⟨h1, g, h2, h3, h4⟩
        · refine Or.inl ⟨h1, fun g q1 q2 => ?_⟩
          by_cases hg : g = i
          · subst hg; exact h
          · exact h2 g (by omega) (by omega)
        · exact Or.inr ⟨h1, g, by omega, by omega, h4⟩
  unfold zr_iu
  rcases key n 0 with ⟨h1, h2⟩ | ⟨h1, g, h2, h3, h4⟩
  · rw [h1]
    exact ⟨fun _ g hg => h2 g (by omega) (by omega), fun _ => rfl⟩
  · rw [h1]
    exact ⟨fun z => absurd z (by decide), fun z => absurd h4 (z g (by omega))⟩
section ZLR
variable {D Mn Gn Un bg : Nat} {l : Nat → Nat → Int32} {fr rd : Nat → Int32}
theorem zL.li (h : zL D Mn Gn Un bg l fr rd) {x : Nat} (hx : x < Gn) : l 12 x < 0 ↔ rd (10 + x) ≤ 0 := by
  have h5 := h.1.1
  rcases h.1.2.2.2.2.2.2.2.2.2.2.1 x hx with ⟨q1, q2⟩ | ⟨e, he, q1, q2⟩
  · rw [q1, q2]; decide
  · rw [q1, q2]
    exact ⟨fun z => absurd z (nI_pos (by omega)), fun z => absurd z (nI_nle (by omega) (by omega))⟩
theorem zL.bt (h : zL D Mn Gn Un bg l fr rd) {x : Nat} (hx : x < Mn) : zr_bt Gn (l 12) (nI x) = 0 ↔ ∀ g, g < 4 → rd (10 + g) ≠ nI (x + 1) := by
  have h5 := h.1.1
  rw [zr_bt_is]
  constructor
  · intro hh g hg hr
    by_cases hgG : g < Gn
    · rcases h.1.2.2.2.2.2.2.2.2.2.2.1 g hgG with ⟨q1, q2⟩ | ⟨e, he, q1, q2⟩
      · rw [q1] at hr
        exact nI_ne0 (n := x + 1) (by omega) (by omega) hr.symm
      · rw [q1] at hr
        have := (nI_eq (by omega) (by omega)).mp hr
        exact hh g hgG (by rw [q2, show e = x by omega])
    · rw [(h.2.1 g (by omega) hg).2.2.2] at hr
      exact nI_ne0 (n := x + 1) (by omega) (by omega) hr.symm
  · intro hh g hg hr
    rcases h.1.2.2.2.2.2.2.2.2.2.2.1 g hg with ⟨q1, q2⟩ | ⟨e, he, q1, q2⟩
    · rw [q2] at hr
      exact absurd (show nI x < 0 by rw [← hr]; decide) (nI_pos (by omega))
    · rw [q2] at hr
      have := (nI_eq (by omega) (by omega)).mp hr
      exact hh g (by omega) (by rw [q1, this])
theorem zL.be (h : zL D Mn Gn Un bg l fr rd) {x : Nat} (hx : x < Gn) : fr (49 + x) = l 13 x := (h.1.2.2.2.2.2.2.1 x hx).2.2.2.1.symm
theorem zL.iu (h : zL D Mn Gn Un bg l fr rd) {x y : Nat} : zr_iu Un (l 14) (l 15) (nI x) (nI y) = 0 ↔ ∀ g, g < Un → ¬ (fr (41 + 2 * g) = nI x ∧ fr (41 + 2 * g + 1) = nI y) := by
  rw [zr_iu_is]
  constructor
  · intro hh g hg
    obtain ⟨q1, q2, _⟩ := h.1.2.2.2.2.2.2.2.1 g hg
    rw [← q1, ← q2]
    exact hh g hg
  · intro hh g hg
    obtain ⟨q1, q2, _⟩ := h.1.2.2.2.2.2.2.2.1 g hg
    rw [q1, q2]
    exact hh g hg
end ZLR
section Z63
variable {Ls : Nat} {xs : Nat → Int32} {v u : Nat → Nat → Int32} {w : Nat → Nat → Int64} {t : zk_H}
variable {tn : Nat → Nat} {ts : Nat → Int32} {tp : Nat → Nat} {tv : Nat → Int64} {E : Nat} {B : Nat → Int32}
theorem zm_dangerLine (hM : zk_MA Ls xs tn ts tp tv E B) (hT : zt_ok tn ts tv E) {k D Mn Gn Un : Nat} {l : Nat → Nat → Int32} {S : Nat → Int64} (hs : zMs tn ts tp tv E B k u) (hN : zRN S (u 72)) (hS : zSr D Mn Gn S) (hL : zL D Mn Gn Un 1 l (u 72) (u 74)) (hcap : D < 8) : ∃ u', zk_Cr zk_mt zk_ex Ls xs 298 [.ref 69] (zH u w t) (none, zH u' w t) ∧ zML tn ts tp tv E B (zp_dangerL tn ts tp tv k D Mn Gn Un l S) u u' := by
  have main : ∃ q, zk_Cr zk_mt zk_ex Ls xs 298 [.ref 69] (zH u w t) q ∧ ∃ u', q = (none, zH u' w t) ∧ zML tn ts tp tv E B (zp_dangerL tn ts tp tv k D Mn Gn Un l S) u u' := by
    have hD8 : D ≤ 8 := hL.1.1.1
    have hM5' : Mn ≤ 5 := hL.1.1.2.1
    have hG4' : Gn ≤ 4 := hL.1.1.2.2.1
    have hU4' : Un ≤ 4 := hL.1.1.2.2.2
    have h721 : u 72 1 = nI D := hL.1.2.1.2.1
    have h722 : u 72 2 = nI Mn := hL.1.2.1.2.2.2.1
    have h723 : u 72 3 = nI Gn := hL.1.2.1.2.2.2.2.2.1
    have h724 : u 72 4 = nI Un := hL.1.2.1.2.2.2.2.2.2.2
    refine zx.of (K := zm_298) rfl rfl rfl ?_
    show zx zk_mt zk_ex Ls xs zm_298 (0, [(0, .ref 69)], []) (zH u w t) _
    refine zx.adv 2 (f' := (4, [(0, .ref 69)], [.int (u 68 13)])) (h' := zH u w t) rfl ?_
    rw [show (u 68 13) = 0 from hs.2.2]
    refine zx.br (f1 := (8, [(0, .ref 69)], [])) (f2 := (7, [(0, .ref 69)], [])) rfl (fun c1 => ?_) (fun c1 => absurd (by decide) (of_decide_eq_false c1))
    refine zx.adv 5 (f' := (16, [(0, .ref 69)], [.int 1, .ref 73, .int 2, .int 7])) (h' := zH u w t) rfl ?_
    refine zx.ob (f' := (17, [(0, .ref 69)], [.int (u 72 (1 : Int32).toNatClampNeg), .int 2, .int 7])) (h' := zH u w t) rfl rfl ?_
    show zx zk_mt zk_ex Ls xs zm_298 (17, [(0, .ref 69)], [.int (u 72 1), .int 2, .int 7]) (zH u w t) _
    rw [h721]
    refine zx.adv 1 (f' := (18, [(0, .ref 69)], [.int (2 * (nI D)), .int 7])) (h' := zH u w t) rfl ?_
    rw [show 2 * (nI D) = nI (2 * D) from pk_mul 2 D]
    refine zx.adv 1 (f' := (19, [(0, .ref 69)], [.int (7 + (nI (2 * D)))])) (h' := zH u w t) rfl ?_
    rw [show 7 + (nI (2 * D)) = nI (7 + (2 * D)) from nI_add 7 (2 * D)]
    refine zx.adv 5 (f' := (26, [(0, .ref 69), (1, .int (nI (7 + (2 * D))))], [.int 1, .ref 73, .ref 69])) (h' := zH u w t) rfl ?_
    refine zx.ob (f' := (27, [(0, .ref 69), (1, .int (nI (7 + (2 * D))))], [.int (u 72 (1 : Int32).toNatClampNeg), .ref 69])) (h' := zH u w t) rfl rfl ?_
    show zx zk_mt zk_ex Ls xs zm_298 (27, [(0, .ref 69), (1, .int (nI (7 + (2 * D))))], [.int (u 72 1), .ref 69]) (zH u w t) _
    rw [h721]
    rcases hz1 : zp_new tn ts tp tv D S k with ⟨k1, S1⟩ | ⟨f1, p1⟩
    · obtain ⟨u1, q1, g1, r1⟩ := zm_newName (w := w) (t := t) (u := u) hM (s := D) (by omega) hs hN
      rw [hz1] at r1
      obtain ⟨s1, n1, e1⟩ : zMs tn ts tp tv E B k1 u1 ∧ zRN S1 (u1 72) ∧ ∀ i, i < 53 → u1 72 i = u 72 i := r1
      refine zx.cl (v := none) (h' := zH u1 w t) rfl q1 ?_
      show zx zk_mt zk_ex Ls xs zm_298 (30, [(0, .ref 69), (1, .int (nI (7 + (2 * D))))], []) (zH u1 w t) _
      refine zx.adv 7 (f' := (41, [(0, .ref 69), (1, .int (nI (7 + (2 * D))))], [.int 9, .int 1, .retAddr 27, .ref 69, .int (nI (7 + (2 * D))), .ref 73])) (h' := zH u1 w t) rfl ?_
      rcases zp_aft_cases tn ts tp tv 5969497 1 9 k1 with ⟨k2a, k2, x2, hz2a, hz2b, hz2c⟩ | ⟨f2, p2, hz2a, hz2c⟩ | ⟨k2a, f2, p2, hz2a, hz2b, hz2c⟩
      · obtain ⟨u2, q2, g2, r2⟩ := zm_after (w := w) (t := t) (u := u1) hM (zw_every (Ls := Ls) (xs := xs)) (lo := 1) (hi := 9) (by decide) (by decide) s1
        rw [hz2c] at q2 r2
        have s2 : zMs tn ts tp tv E B k2 u2 := r2
        have hx2 := zp_num_in hz2b
        refine zx.cl (v := some (.int (nI x2))) (h' := zH u2 w t) rfl q2 ?_
        show zx zk_mt zk_ex Ls xs zm_298 (44, [(0, .ref 69), (1, .int (nI (7 + (2 * D))))], [.int (nI x2), .int (nI (7 + (2 * D))), .ref 73]) (zH u2 w t) _
        refine zx.ob (f' := (45, [(0, .ref 69), (1, .int (nI (7 + (2 * D))))], [])) (h' := zH (zb u2 72 (upd (u2 72) (nI (7 + (2 * D))).toNatClampNeg (nI x2))) w t) rfl (by first | exact zk_inN (by omega) (by decide) | decide) ?_
        rw [nI_clamp (show (7 + (2 * D)) < 2 ^ 31 by omega)]
        refine zx.adv 5 (f' := (52, [(0, .ref 69), (1, .int (nI (7 + (2 * D))))], [.int ((nI (7 + (2 * D))) + 1), .ref 73])) (h' := zH (zb u2 72 (upd (u2 72) (7 + (2 * D)) (nI x2))) w t) rfl ?_
        rw [show (nI (7 + (2 * D))) + 1 = nI ((7 + (2 * D)) + 1) from nI_add (7 + (2 * D)) 1]
        refine zx.adv 4 (f' := (58, [(0, .ref 69), (1, .int (nI (7 + (2 * D))))], [.int 30, .int 1, .retAddr 28, .ref 69, .int (nI ((7 + (2 * D)) + 1)), .ref 73])) (h' := zH (zb u2 72 (upd (u2 72) (7 + (2 * D)) (nI x2))) w t) rfl ?_
        rcases zp_aft_cases tn ts tp tv 215533 1 30 k2 with ⟨k3a, k3, x3, hz3a, hz3b, hz3c⟩ | ⟨f3, p3, hz3a, hz3c⟩ | ⟨k3a, f3, p3, hz3a, hz3b, hz3c⟩
        · obtain ⟨u3, q3, g3, r3⟩ := zm_after (w := w) (t := t) (u := (zb u2 72 (upd (u2 72) (7 + (2 * D)) (nI x2)))) hM (zw_from (Ls := Ls) (xs := xs)) (lo := 1) (hi := 30) (by decide) (by decide) s2
          rw [hz3c] at q3 r3
          have s3 : zMs tn ts tp tv E B k3 u3 := r3
          have hx3 := zp_num_in hz3b
          refine zx.cl (v := some (.int (nI x3))) (h' := zH u3 w t) rfl q3 ?_
          show zx zk_mt zk_ex Ls xs zm_298 (61, [(0, .ref 69), (1, .int (nI (7 + (2 * D))))], [.int (nI x3), .int (nI ((7 + (2 * D)) + 1)), .ref 73]) (zH u3 w t) _
          refine zx.ob (f' := (62, [(0, .ref 69), (1, .int (nI (7 + (2 * D))))], [])) (h' := zH (zb u3 72 (upd (u3 72) (nI ((7 + (2 * D)) + 1)).toNatClampNeg (nI x3))) w t) rfl (by first | exact zk_inN (by omega) (by decide) | decide) ?_
          rw [nI_clamp (show ((7 + (2 * D)) + 1) < 2 ^ 31 by omega)]
          refine zx.adv 2 (f' := (66, [(0, .ref 69), (1, .int (nI (7 + (2 * D))))], [.int (u3 68 13)])) (h' := zH (zb u3 72 (upd (u3 72) ((7 + (2 * D)) + 1) (nI x3))) w t) rfl ?_
          rw [show (u3 68 13) = 0 from s3.2.2]
          refine zx.br (f1 := (69, [(0, .ref 69), (1, .int (nI (7 + (2 * D))))], [])) (f2 := (79, [(0, .ref 69), (1, .int (nI (7 + (2 * D))))], [])) rfl (fun c2 => ?_) (fun c2 => absurd (by decide) (of_decide_eq_false c2))
          refine zx.adv 4 (f' := (75, [(0, .ref 69), (1, .int (nI (7 + (2 * D))))], [.int 1, .ref 73, .int 1, .ref 73])) (h' := zH (zb u3 72 (upd (u3 72) ((7 + (2 * D)) + 1) (nI x3))) w t) rfl ?_
          refine zx.ob (f' := (76, [(0, .ref 69), (1, .int (nI (7 + (2 * D))))], [.int ((upd (u3 72) ((7 + (2 * D)) + 1) (nI x3)) (1 : Int32).toNatClampNeg), .int 1, .ref 73])) (h' := zH (zb u3 72 (upd (u3 72) ((7 + (2 * D)) + 1) (nI x3))) w t) rfl rfl ?_
          show zx zk_mt zk_ex Ls xs zm_298 (76, [(0, .ref 69), (1, .int (nI (7 + (2 * D))))], [.int ((upd (u3 72) ((7 + (2 * D)) + 1) (nI x3)) 1), .int 1, .ref 73]) (zH (zb u3 72 (upd (u3 72) ((7 + (2 * D)) + 1) (nI x3))) w t) _
          rw [show (upd (u3 72) ((7 + (2 * D)) + 1) (nI x3)) 1 = nI D from (((zE.g (g3.1 72 (by decide) (by decide)) (zE.g (g2.1 72 (by decide) (by decide)) e1).u).u) 1 (by decide)).trans ((pk_un (show 1 ≠ ((7 + (2 * D)) + 1) by omega)).trans ((pk_un (show 1 ≠ (7 + (2 * D)) by omega)).trans h721))]
          refine zx.adv 2 (f' := (78, [(0, .ref 69), (1, .int (nI (7 + (2 * D))))], [.int ((nI D) + 1), .int 1, .ref 73])) (h' := zH (zb u3 72 (upd (u3 72) ((7 + (2 * D)) + 1) (nI x3))) w t) rfl ?_
          rw [show (nI D) + 1 = nI (D + 1) from nI_add D 1]
          refine zx.ob (f' := (79, [(0, .ref 69), (1, .int (nI (7 + (2 * D))))], [])) (h' := zH (zb u3 72 (upd (upd (u3 72) ((7 + (2 * D)) + 1) (nI x3)) (1 : Int32).toNatClampNeg (nI (D + 1)))) w t) rfl rfl ?_
          show zx zk_mt zk_ex Ls xs zm_298 (79, [(0, .ref 69), (1, .int (nI (7 + (2 * D))))], []) (zH (zb u3 72 (upd (upd (u3 72) ((7 + (2 * D)) + 1) (nI x3)) 1 (nI (D + 1)))) w t) _
          exact zx.rt rfl rfl ⟨(zb u3 72 (upd (upd (u3 72) ((7 + (2 * D)) + 1) (nI x3)) 1 (nI (D + 1)))), rfl, (((zMk.refl.steph g1).step g2).b72.step g3).b72, by rw [show zp_dangerL tn ts tp tv k D Mn Gn Un l S = .inl (k3, (D + 1, Mn, Gn, Un, 1), (zb (zb (zb l 4 (upd (l 4) 1 (nI (D + 1)))) 5 (upd (l 5) D (nI x2))) 6 (upd (l 6) D (nI x3))), S1) by simp only [zp_dangerL, zp_kind, zbd, hz1, hz2a, hz2b, hz3a, hz3b]]; exact ⟨s3, (zRN.u (by omega) (zRN.u (by omega) (show zRN S1 (u3 72) by rw [g3.1 72 (by decide) (by decide)]; exact (zRN.u (by omega) (show zRN S1 (u2 72) by rw [g2.1 72 (by decide) (by decide)]; exact n1))))), (by rw [show (zb u3 72 (upd (upd (u3 72) ((7 + (2 * D)) + 1) (nI x3)) 1 (nI (D + 1)))) 74 = u 74 from ((g3.1 74 (by decide) (by decide)).trans ((g2.1 74 (by decide) (by decide)).trans ((g1.1 74 (by decide) (by decide) (by decide)).trans rfl)))]; exact zL_danger hcap hx2 hx3 hL rfl (fun i h1 n0 n1 n2 => ((show zE (upd (upd (u3 72) ((7 + (2 * D)) + 1) (nI x3)) 1 (nI (D + 1))) (upd (upd (upd (u 72) (7 + (2 * D)) (nI x2)) ((7 + (2 * D)) + 1) (nI x3)) 1 (nI (D + 1))) from (zE.g (g3.1 72 (by decide) (by decide)) (zE.g (g2.1 72 (by decide) (by decide)) e1).u).u.u) i h1).trans ((pk_un n0).trans ((pk_un n2).trans (pk_un n1)))) (((show zE (upd (upd (u3 72) ((7 + (2 * D)) + 1) (nI x3)) 1 (nI (D + 1))) (upd (upd (upd (u 72) (7 + (2 * D)) (nI x2)) ((7 + (2 * D)) + 1) (nI x3)) 1 (nI (D + 1))) from (zE.g (g3.1 72 (by decide) (by decide)) (zE.g (g2.1 72 (by decide) (by decide)) e1).u).u.u) (1) (by omega)).trans pk_us) (((show zE (upd (upd (u3 72) ((7 + (2 * D)) + 1) (nI x3)) 1 (nI (D + 1))) (upd (upd (upd (u 72) (7 + (2 * D)) (nI x2)) ((7 + (2 * D)) + 1) (nI x3)) 1 (nI (D + 1))) from (zE.g (g3.1 72 (by decide) (by decide)) (zE.g (g2.1 72 (by decide) (by decide)) e1).u).u.u) (7 + 2 * D) (by omega)).trans ((pk_un (show 7 + 2 * D ≠ 1 by omega)).trans ((pk_un (show 7 + 2 * D ≠ ((7 + (2 * D)) + 1) by omega)).trans pk_us))) (((show zE (upd (upd (u3 72) ((7 + (2 * D)) + 1) (nI x3)) 1 (nI (D + 1))) (upd (upd (upd (u 72) (7 + (2 * D)) (nI x2)) ((7 + (2 * D)) + 1) (nI x3)) 1 (nI (D + 1))) from (zE.g (g3.1 72 (by decide) (by decide)) (zE.g (g2.1 72 (by decide) (by decide)) e1).u).u.u) (7 + 2 * D + 1) (by omega)).trans ((pk_un (show 7 + 2 * D + 1 ≠ 1 by omega)).trans pk_us)))⟩⟩
        · obtain ⟨u3, q3, g3, r3⟩ := zm_after (w := w) (t := t) (u := (zb u2 72 (upd (u2 72) (7 + (2 * D)) (nI x2)))) hM (zw_from (Ls := Ls) (xs := xs)) (lo := 1) (hi := 30) (by decide) (by decide) s2
          rw [hz3c] at q3 r3
          have y3 : zMx f3 p3 u3 := r3
          refine zx.cl (v := some (.int (nI 1))) (h' := zH u3 w t) rfl q3 ?_
          show zx zk_mt zk_ex Ls xs zm_298 (61, [(0, .ref 69), (1, .int (nI (7 + (2 * D))))], [.int (nI 1), .int (nI ((7 + (2 * D)) + 1)), .ref 73]) (zH u3 w t) _
          refine zx.ob (f' := (62, [(0, .ref 69), (1, .int (nI (7 + (2 * D))))], [])) (h' := zH (zb u3 72 (upd (u3 72) (nI ((7 + (2 * D)) + 1)).toNatClampNeg (nI 1))) w t) rfl (by first | exact zk_inN (by omega) (by decide) | decide) ?_
          rw [nI_clamp (show ((7 + (2 * D)) + 1) < 2 ^ 31 by omega)]
          refine zx.adv 2 (f' := (66, [(0, .ref 69), (1, .int (nI (7 + (2 * D))))], [.int (u3 68 13)])) (h' := zH (zb u3 72 (upd (u3 72) ((7 + (2 * D)) + 1) (nI 1))) w t) rfl ?_
          rw [show (u3 68 13) = 1 from y3.1]
          refine zx.br (f1 := (69, [(0, .ref 69), (1, .int (nI (7 + (2 * D))))], [])) (f2 := (79, [(0, .ref 69), (1, .int (nI (7 + (2 * D))))], [])) rfl (fun c3 => absurd (of_decide_eq_true c3) (by decide)) (fun c3 => ?_)
          exact zx.rt rfl rfl ⟨(zb u3 72 (upd (u3 72) ((7 + (2 * D)) + 1) (nI 1))), rfl, (((zMk.refl.steph g1).step g2).b72.step g3).b72, by rw [show zp_dangerL tn ts tp tv k D Mn Gn Un l S = .inr (f3, p3) by simp only [zp_dangerL, zp_kind, zbd, hz1, hz2a, hz2b, hz3a]]; exact y3⟩
        · obtain ⟨u3, q3, g3, r3⟩ := zm_after (w := w) (t := t) (u := (zb u2 72 (upd (u2 72) (7 + (2 * D)) (nI x2)))) hM (zw_from (Ls := Ls) (xs := xs)) (lo := 1) (hi := 30) (by decide) (by decide) s2
          rw [hz3c] at q3 r3
          have y3 : zMx f3 p3 u3 := r3
          refine zx.cl (v := some (.int (nI 1))) (h' := zH u3 w t) rfl q3 ?_
          show zx zk_mt zk_ex Ls xs zm_298 (61, [(0, .ref 69), (1, .int (nI (7 + (2 * D))))], [.int (nI 1), .int (nI ((7 + (2 * D)) + 1)), .ref 73]) (zH u3 w t) _
          refine zx.ob (f' := (62, [(0, .ref 69), (1, .int (nI (7 + (2 * D))))], [])) (h' := zH (zb u3 72 (upd (u3 72) (nI ((7 + (2 * D)) + 1)).toNatClampNeg (nI 1))) w t) rfl (by first | exact zk_inN (by omega) (by decide) | decide) ?_
          rw [nI_clamp (show ((7 + (2 * D)) + 1) < 2 ^ 31 by omega)]
          refine zx.adv 2 (f' := (66, [(0, .ref 69), (1, .int (nI (7 + (2 * D))))], [.int (u3 68 13)])) (h' := zH (zb u3 72 (upd (u3 72) ((7 + (2 * D)) + 1) (nI 1))) w t) rfl ?_
          rw [show (u3 68 13) = 1 from y3.1]
          refine zx.br (f1 := (69, [(0, .ref 69), (1, .int (nI (7 + (2 * D))))], [])) (f2 := (79, [(0, .ref 69), (1, .int (nI (7 + (2 * D))))], [])) rfl (fun c4 => absurd (of_decide_eq_true c4) (by decide)) (fun c4 => ?_)
          exact zx.rt rfl rfl ⟨(zb u3 72 (upd (u3 72) ((7 + (2 * D)) + 1) (nI 1))), rfl, (((zMk.refl.steph g1).step g2).b72.step g3).b72, by rw [show zp_dangerL tn ts tp tv k D Mn Gn Un l S = .inr (f3, p3) by simp only [zp_dangerL, zp_kind, zbd, hz1, hz2a, hz2b, hz3a, hz3b]]; exact y3⟩
      · obtain ⟨u2, q2, g2, r2⟩ := zm_after (w := w) (t := t) (u := u1) hM (zw_every (Ls := Ls) (xs := xs)) (lo := 1) (hi := 9) (by decide) (by decide) s1
        rw [hz2c] at q2 r2
        have y2 : zMx f2 p2 u2 := r2
        refine zx.cl (v := some (.int (nI 1))) (h' := zH u2 w t) rfl q2 ?_
        show zx zk_mt zk_ex Ls xs zm_298 (44, [(0, .ref 69), (1, .int (nI (7 + (2 * D))))], [.int (nI 1), .int (nI (7 + (2 * D))), .ref 73]) (zH u2 w t) _
        refine zx.ob (f' := (45, [(0, .ref 69), (1, .int (nI (7 + (2 * D))))], [])) (h' := zH (zb u2 72 (upd (u2 72) (nI (7 + (2 * D))).toNatClampNeg (nI 1))) w t) rfl (by first | exact zk_inN (by omega) (by decide) | decide) ?_
        rw [nI_clamp (show (7 + (2 * D)) < 2 ^ 31 by omega)]
        refine zx.adv 5 (f' := (52, [(0, .ref 69), (1, .int (nI (7 + (2 * D))))], [.int ((nI (7 + (2 * D))) + 1), .ref 73])) (h' := zH (zb u2 72 (upd (u2 72) (7 + (2 * D)) (nI 1))) w t) rfl ?_
        rw [show (nI (7 + (2 * D))) + 1 = nI ((7 + (2 * D)) + 1) from nI_add (7 + (2 * D)) 1]
        refine zx.adv 4 (f' := (58, [(0, .ref 69), (1, .int (nI (7 + (2 * D))))], [.int 30, .int 1, .retAddr 28, .ref 69, .int (nI ((7 + (2 * D)) + 1)), .ref 73])) (h' := zH (zb u2 72 (upd (u2 72) (7 + (2 * D)) (nI 1))) w t) rfl ?_
        refine zx.cl (v := some (.int 1)) (h' := zH (zb u2 72 (upd (u2 72) (7 + (2 * D)) (nI 1))) w t) rfl (zm_after_x (u := (zb u2 72 (upd (u2 72) (7 + (2 * D)) (nI 1)))) 28 1 30 y2.1) ?_
        show zx zk_mt zk_ex Ls xs zm_298 (61, [(0, .ref 69), (1, .int (nI (7 + (2 * D))))], [.int 1, .int (nI ((7 + (2 * D)) + 1)), .ref 73]) (zH (zb u2 72 (upd (u2 72) (7 + (2 * D)) (nI 1))) w t) _
        refine zx.ob (f' := (62, [(0, .ref 69), (1, .int (nI (7 + (2 * D))))], [])) (h' := zH (zb u2 72 (upd (upd (u2 72) (7 + (2 * D)) (nI 1)) (nI ((7 + (2 * D)) + 1)).toNatClampNeg 1)) w t) rfl (by first | exact zk_inN (by omega) (by decide) | decide) ?_
        rw [nI_clamp (show ((7 + (2 * D)) + 1) < 2 ^ 31 by omega)]
        refine zx.adv 2 (f' := (66, [(0, .ref 69), (1, .int (nI (7 + (2 * D))))], [.int (u2 68 13)])) (h' := zH (zb u2 72 (upd (upd (u2 72) (7 + (2 * D)) (nI 1)) ((7 + (2 * D)) + 1) 1)) w t) rfl ?_
        rw [show (u2 68 13) = 1 from y2.1]
        refine zx.br (f1 := (69, [(0, .ref 69), (1, .int (nI (7 + (2 * D))))], [])) (f2 := (79, [(0, .ref 69), (1, .int (nI (7 + (2 * D))))], [])) rfl (fun c5 => absurd (of_decide_eq_true c5) (by decide)) (fun c5 => ?_)
        exact zx.rt rfl rfl ⟨(zb u2 72 (upd (upd (u2 72) (7 + (2 * D)) (nI 1)) ((7 + (2 * D)) + 1) 1)), rfl, ((zMk.refl.steph g1).step g2).b72, by rw [show zp_dangerL tn ts tp tv k D Mn Gn Un l S = .inr (f2, p2) by simp only [zp_dangerL, zp_kind, zbd, hz1, hz2a]]; exact y2⟩
      · obtain ⟨u2, q2, g2, r2⟩ := zm_after (w := w) (t := t) (u := u1) hM (zw_every (Ls := Ls) (xs := xs)) (lo := 1) (hi := 9) (by decide) (by decide) s1
        rw [hz2c] at q2 r2
        have y2 : zMx f2 p2 u2 := r2
        refine zx.cl (v := some (.int (nI 1))) (h' := zH u2 w t) rfl q2 ?_
        show zx zk_mt zk_ex Ls xs zm_298 (44, [(0, .ref 69), (1, .int (nI (7 + (2 * D))))], [.int (nI 1), .int (nI (7 + (2 * D))), .ref 73]) (zH u2 w t) _
        refine zx.ob (f' := (45, [(0, .ref 69), (1, .int (nI (7 + (2 * D))))], [])) (h' := zH (zb u2 72 (upd (u2 72) (nI (7 + (2 * D))).toNatClampNeg (nI 1))) w t) rfl (by first | exact zk_inN (by omega) (by decide) | decide) ?_
        rw [nI_clamp (show (7 + (2 * D)) < 2 ^ 31 by omega)]
        refine zx.adv 5 (f' := (52, [(0, .ref 69), (1, .int (nI (7 + (2 * D))))], [.int ((nI (7 + (2 * D))) + 1), .ref 73])) (h' := zH (zb u2 72 (upd (u2 72) (7 + (2 * D)) (nI 1))) w t) rfl ?_
        rw [show (nI (7 + (2 * D))) + 1 = nI ((7 + (2 * D)) + 1) from nI_add (7 + (2 * D)) 1]
        refine zx.adv 4 (f' := (58, [(0, .ref 69), (1, .int (nI (7 + (2 * D))))], [.int 30, .int 1, .retAddr 28, .ref 69, .int (nI ((7 + (2 * D)) + 1)), .ref 73])) (h' := zH (zb u2 72 (upd (u2 72) (7 + (2 * D)) (nI 1))) w t) rfl ?_
        refine zx.cl (v := some (.int 1)) (h' := zH (zb u2 72 (upd (u2 72) (7 + (2 * D)) (nI 1))) w t) rfl (zm_after_x (u := (zb u2 72 (upd (u2 72) (7 + (2 * D)) (nI 1)))) 28 1 30 y2.1) ?_
        show zx zk_mt zk_ex Ls xs zm_298 (61, [(0, .ref 69), (1, .int (nI (7 + (2 * D))))], [.int 1, .int (nI ((7 + (2 * D)) + 1)), .ref 73]) (zH (zb u2 72 (upd (u2 72) (7 + (2 * D)) (nI 1))) w t) _
        refine zx.ob (f' := (62, [(0, .ref 69), (1, .int (nI (7 + (2 * D))))], [])) (h' := zH (zb u2 72 (upd (upd (u2 72) (7 + (2 * D)) (nI 1)) (nI ((7 + (2 * D)) + 1)).toNatClampNeg 1)) w t) rfl (by first | exact zk_inN (by omega) (by decide) | decide) ?_
        rw [nI_clamp (show ((7 + (2 * D)) + 1) < 2 ^ 31 by omega)]
        refine zx.adv 2 (f' := (66, [(0, .ref 69), (1, .int (nI (7 + (2 * D))))], [.int (u2 68 13)])) (h' := zH (zb u2 72 (upd (upd (u2 72) (7 + (2 * D)) (nI 1)) ((7 + (2 * D)) + 1) 1)) w t) rfl ?_
        rw [show (u2 68 13) = 1 from y2.1]
        refine zx.br (f1 := (69, [(0, .ref 69), (1, .int (nI (7 + (2 * D))))], [])) (f2 := (79, [(0, .ref 69), (1, .int (nI (7 + (2 * D))))], [])) rfl (fun c6 => absurd (of_decide_eq_true c6) (by decide)) (fun c6 => ?_)
        exact zx.rt rfl rfl ⟨(zb u2 72 (upd (upd (u2 72) (7 + (2 * D)) (nI 1)) ((7 + (2 * D)) + 1) 1)), rfl, ((zMk.refl.steph g1).step g2).b72, by rw [show zp_dangerL tn ts tp tv k D Mn Gn Un l S = .inr (f2, p2) by simp only [zp_dangerL, zp_kind, zbd, hz1, hz2a, hz2b]]; exact y2⟩
    · obtain ⟨u1, q1, g1, r1⟩ := zm_newName (w := w) (t := t) (u := u) hM (s := D) (by omega) hs hN
      rw [hz1] at r1
      have y1 : zMx f1 p1 u1 := r1
      refine zx.cl (v := none) (h' := zH u1 w t) rfl q1 ?_
      show zx zk_mt zk_ex Ls xs zm_298 (30, [(0, .ref 69), (1, .int (nI (7 + (2 * D))))], []) (zH u1 w t) _
      refine zx.adv 7 (f' := (41, [(0, .ref 69), (1, .int (nI (7 + (2 * D))))], [.int 9, .int 1, .retAddr 27, .ref 69, .int (nI (7 + (2 * D))), .ref 73])) (h' := zH u1 w t) rfl ?_
      refine zx.cl (v := some (.int 1)) (h' := zH u1 w t) rfl (zm_after_x (u := u1) 27 1 9 y1.1) ?_
      show zx zk_mt zk_ex Ls xs zm_298 (44, [(0, .ref 69), (1, .int (nI (7 + (2 * D))))], [.int 1, .int (nI (7 + (2 * D))), .ref 73]) (zH u1 w t) _
      refine zx.ob (f' := (45, [(0, .ref 69), (1, .int (nI (7 + (2 * D))))], [])) (h' := zH (zb u1 72 (upd (u1 72) (nI (7 + (2 * D))).toNatClampNeg 1)) w t) rfl (by first | exact zk_inN (by omega) (by decide) | decide) ?_
      rw [nI_clamp (show (7 + (2 * D)) < 2 ^ 31 by omega)]
      refine zx.adv 5 (f' := (52, [(0, .ref 69), (1, .int (nI (7 + (2 * D))))], [.int ((nI (7 + (2 * D))) + 1), .ref 73])) (h' := zH (zb u1 72 (upd (u1 72) (7 + (2 * D)) 1)) w t) rfl ?_
      rw [show (nI (7 + (2 * D))) + 1 = nI ((7 + (2 * D)) + 1) from nI_add (7 + (2 * D)) 1]
      refine zx.adv 4 (f' := (58, [(0, .ref 69), (1, .int (nI (7 + (2 * D))))], [.int 30, .int 1, .retAddr 28, .ref 69, .int (nI ((7 + (2 * D)) + 1)), .ref 73])) (h' := zH (zb u1 72 (upd (u1 72) (7 + (2 * D)) 1)) w t) rfl ?_
      refine zx.cl (v := some (.int 1)) (h' := zH (zb u1 72 (upd (u1 72) (7 + (2 * D)) 1)) w t) rfl (zm_after_x (u := (zb u1 72 (upd (u1 72) (7 + (2 * D)) 1))) 28 1 30 y1.1) ?_
      show zx zk_mt zk_ex Ls xs zm_298 (61, [(0, .ref 69), (1, .int (nI (7 + (2 * D))))], [.int 1, .int (nI ((7 + (2 * D)) + 1)), .ref 73]) (zH (zb u1 72 (upd (u1 72) (7 + (2 * D)) 1)) w t) _
      refine zx.ob (f' := (62, [(0, .ref 69), (1, .int (nI (7 + (2 * D))))], [])) (h' := zH (zb u1 72 (upd (upd (u1 72) (7 + (2 * D)) 1) (nI ((7 + (2 * D)) + 1)).toNatClampNeg 1)) w t) rfl (by first | exact zk_inN (by omega) (by decide) | decide) ?_
      rw [nI_clamp (show ((7 + (2 * D)) + 1) < 2 ^ 31 by omega)]
      refine zx.adv 2 (f' := (66, [(0, .ref 69), (1, .int (nI (7 + (2 * D))))], [.int (u1 68 13)])) (h' := zH (zb u1 72 (upd (upd (u1 72) (7 + (2 * D)) 1) ((7 + (2 * D)) + 1) 1)) w t) rfl ?_
      rw [show (u1 68 13) = 1 from y1.1]
      refine zx.br (f1 := (69, [(0, .ref 69), (1, .int (nI (7 + (2 * D))))], [])) (f2 := (79, [(0, .ref 69), (1, .int (nI (7 + (2 * D))))], [])) rfl (fun c7 => absurd (of_decide_eq_true c7) (by decide)) (fun c7 => ?_)
      exact zx.rt rfl rfl ⟨(zb u1 72 (upd (upd (u1 72) (7 + (2 * D)) 1) ((7 + (2 * D)) + 1) 1)), rfl, (zMk.refl.steph g1).b72, by rw [show zp_dangerL tn ts tp tv k D Mn Gn Un l S = .inr (f1, p1) by simp only [zp_dangerL, zp_kind, zbd, hz1]]; exact y1⟩
  obtain ⟨q, h1, u', rfl, h2⟩ := main
  exact ⟨u', h1, h2⟩
theorem zSr_new {tn : Nat → Nat} {ts : Nat → Int32} {tp : Nat → Nat} {tv : Nat → Int64} {D Mn Gn s k k1 : Nat} {S S1 : Nat → Int64} (hS : zSr D Mn Gn S) (hz : zp_new tn ts tp tv s S k = .inl (k1, S1)) (h8 : 8 ≤ s) : ∀ a, a < 8 → S1 a ≠ 0 → a < D := by
  intro a ha h0
  unfold zp_new at hz
  split at hz
  · cases hz
  · split at hz
    · cases hz
      rw [zL_un (show a ≠ s by omega)] at h0
      have := hS a (by omega) h0
      omega
    · cases hz
theorem zm_makerLine (hM : zk_MA Ls xs tn ts tp tv E B) (hT : zt_ok tn ts tv E) {k D Mn Gn Un : Nat} {l : Nat → Nat → Int32} {S : Nat → Int64} (hs : zMs tn ts tp tv E B k u) (hN : zRN S (u 72)) (hS : zSr D Mn Gn S) (hL : zL D Mn Gn Un 1 l (u 72) (u 74)) (hcap : Mn < 5) : ∃ u', zk_Cr zk_mt zk_ex Ls xs 305 [.ref 69] (zH u w t) (none, zH u' w t) ∧ zML tn ts tp tv E B (zp_makerL tn ts tp tv k D Mn Gn Un l S) u u' := by
  have main : ∃ q, zk_Cr zk_mt zk_ex Ls xs 305 [.ref 69] (zH u w t) q ∧ ∃ u', q = (none, zH u' w t) ∧ zML tn ts tp tv E B (zp_makerL tn ts tp tv k D Mn Gn Un l S) u u' := by
    have hD8 : D ≤ 8 := hL.1.1.1
    have hM5' : Mn ≤ 5 := hL.1.1.2.1
    have hG4' : Gn ≤ 4 := hL.1.1.2.2.1
    have hU4' : Un ≤ 4 := hL.1.1.2.2.2
    have h721 : u 72 1 = nI D := hL.1.2.1.2.1
    have h722 : u 72 2 = nI Mn := hL.1.2.1.2.2.2.1
    have h723 : u 72 3 = nI Gn := hL.1.2.1.2.2.2.2.2.1
    have h724 : u 72 4 = nI Un := hL.1.2.1.2.2.2.2.2.2.2
    refine zx.of (K := zm_305) rfl rfl rfl ?_
    show zx zk_mt zk_ex Ls xs zm_305 (0, [(0, .ref 69)], []) (zH u w t) _
    refine zx.adv 2 (f' := (4, [(0, .ref 69)], [.int (u 68 13)])) (h' := zH u w t) rfl ?_
    rw [show (u 68 13) = 0 from hs.2.2]
    refine zx.br (f1 := (8, [(0, .ref 69)], [])) (f2 := (7, [(0, .ref 69)], [])) rfl (fun c1 => ?_) (fun c1 => absurd (by decide) (of_decide_eq_false c1))
    refine zx.adv 3 (f' := (13, [(0, .ref 69)], [.int 2, .ref 73])) (h' := zH u w t) rfl ?_
    refine zx.ob (f' := (14, [(0, .ref 69)], [.int (u 72 (2 : Int32).toNatClampNeg)])) (h' := zH u w t) rfl rfl ?_
    show zx zk_mt zk_ex Ls xs zm_305 (14, [(0, .ref 69)], [.int (u 72 2)]) (zH u w t) _
    rw [h722]
    refine zx.adv 5 (f' := (20, [(0, .ref 69), (1, .int (nI Mn))], [.int (8 + (nI Mn)), .ref 69])) (h' := zH u w t) rfl ?_
    rw [show 8 + (nI Mn) = nI (8 + Mn) from nI_add 8 Mn]
    rcases hz1 : zp_new tn ts tp tv (8 + Mn) S k with ⟨k1, S1⟩ | ⟨f1, p1⟩
    · obtain ⟨u1, q1, g1, r1⟩ := zm_newName (w := w) (t := t) (u := u) hM (s := (8 + Mn)) (by omega) hs hN
      rw [hz1] at r1
      obtain ⟨s1, n1, e1⟩ : zMs tn ts tp tv E B k1 u1 ∧ zRN S1 (u1 72) ∧ ∀ i, i < 53 → u1 72 i = u 72 i := r1
      have hS8 : ∀ s, s < 8 → S1 s ≠ 0 → s < D := zSr_new hS hz1 (by omega)
      refine zx.cl (v := none) (h' := zH u1 w t) rfl q1 ?_
      show zx zk_mt zk_ex Ls xs zm_305 (23, [(0, .ref 69), (1, .int (nI Mn))], []) (zH u1 w t) _
      refine zx.adv 2 (f' := (26, [(0, .ref 69), (1, .int (nI Mn))], [.retAddr 29, .ref 69])) (h' := zH u1 w t) rfl ?_
      by_cases hz2 : ts k1 = 2 ∧ tv k1 = 7931589
      · refine zx.cl (v := some (.int 1)) (h' := zH u1 w t) rfl (by have ee := zm_isWord (w := w) (t := t) (u := u1) (zw_grave (Ls := Ls) (xs := xs)) s1; rw [if_pos hz2] at ee; exact ee) ?_
        show zx zk_mt zk_ex Ls xs zm_305 (29, [(0, .ref 69), (1, .int (nI Mn))], [.int 1]) (zH u1 w t) _
        refine zx.br (f1 := (36, [(0, .ref 69), (1, .int (nI Mn))], [])) (f2 := (32, [(0, .ref 69), (1, .int (nI Mn))], [])) rfl (fun c2 => absurd (of_decide_eq_true c2) (by decide)) (fun c2 => ?_)
        refine zx.adv 4 (f' := (65, [(0, .ref 69), (1, .int (nI Mn)), (2, .int 0)], [.int 0])) (h' := zH u1 w t) rfl ?_
        refine zx.br (f1 := (77, [(0, .ref 69), (1, .int (nI Mn)), (2, .int 0)], [])) (f2 := (68, [(0, .ref 69), (1, .int (nI Mn)), (2, .int 0)], [])) rfl (fun c3 => ?_) (fun c3 => absurd (by decide) (of_decide_eq_false c3))
        refine zx.adv 1 (f' := (78, [(0, .ref 69), (1, .int (nI Mn)), (2, .int 0)], [.ref 69])) (h' := zH u1 w t) rfl ?_
        skip
        · obtain ⟨u3, q3, g3, s3⟩ := zm_pass (w := w) (t := t) (u := u1) hM s1
          refine zx.cl (v := none) (h' := zH u3 w t) rfl q3 ?_
          show zx zk_mt zk_ex Ls xs zm_305 (81, [(0, .ref 69), (1, .int (nI Mn)), (2, .int 0)], []) (zH u3 w t) _
          refine zx.adv 4 (f' := (87, [(0, .ref 69), (1, .int (nI Mn)), (2, .int 0)], [.int 30, .int 1, .retAddr 32, .ref 69])) (h' := zH u3 w t) rfl ?_
          rcases zp_aft_cases tn ts tp tv 12635795 1 30 (tn k1) with ⟨k4a, k4, x4, hz4a, hz4b, hz4c⟩ | ⟨f4, p4, hz4a, hz4c⟩ | ⟨k4a, f4, p4, hz4a, hz4b, hz4c⟩
          · obtain ⟨u4, q4, g4, r4⟩ := zm_after (w := w) (t := t) (u := u3) hM (zw_lasts (Ls := Ls) (xs := xs)) (lo := 1) (hi := 30) (by decide) (by decide) s3
            rw [hz4c] at q4 r4
            have s4 : zMs tn ts tp tv E B k4 u4 := r4
            have hx4 := zp_num_in hz4b
            refine zx.cl (v := some (.int (nI x4))) (h' := zH u4 w t) rfl q4 ?_
            show zx zk_mt zk_ex Ls xs zm_305 (90, [(0, .ref 69), (1, .int (nI Mn)), (2, .int 0)], [.int (nI x4)]) (zH u4 w t) _
            refine zx.adv 3 (f' := (94, [(0, .ref 69), (1, .int (nI Mn)), (2, .int 0), (3, .int (nI x4))], [.retAddr 33, .ref 69])) (h' := zH u4 w t) rfl ?_
            rcases zp_dgs_cases tn ts tp tv 679786867 S1 k4 with ⟨k5a, k5, b5, hz5a, hz5b, hz5c⟩ | ⟨f5, p5, hz5a, hz5c⟩ | ⟨k5a, f5, p5, hz5a, hz5b, hz5c⟩
            · obtain ⟨T5, hT5, hb5⟩ := zp_dng_lt hD8 hS8 hT hM.1 9 0 _ _ _ (zp_kw_E hM.1 s4.1.1 hz5a) (Nat.two_pow_pos D) hz5b
              subst hb5
              obtain ⟨u5, rv5, q5, g5, r5⟩ := zm_dangers (w := w) (t := t) (u := u4) hM (zw_thinks (Ls := Ls) (xs := xs)) s4 (show zRN S1 (u4 72) by rw [g4.1 72 (by decide) (by decide)]; exact (show zRN S1 (u3 72) by rw [g3.1 72 (by decide) (by decide)]; exact n1))
              rw [hz5c] at r5
              obtain ⟨rb5, s5⟩ : rv5 = nI T5 ∧ zMs tn ts tp tv E B k5 u5 := r5
              rw [rb5] at q5
              refine zx.cl (v := some (.int (nI T5))) (h' := zH u5 w t) rfl q5 ?_
              show zx zk_mt zk_ex Ls xs zm_305 (97, [(0, .ref 69), (1, .int (nI Mn)), (2, .int 0), (3, .int (nI x4))], [.int (nI T5)]) (zH u5 w t) _
              refine zx.adv 3 (f' := (103, [(0, .ref 69), (1, .int (nI Mn)), (2, .int 0), (3, .int (nI x4)), (4, .int (nI T5))], [.int (u5 68 13)])) (h' := zH u5 w t) rfl ?_
              rw [show (u5 68 13) = 0 from s5.2.2]
              refine zx.br (f1 := (107, [(0, .ref 69), (1, .int (nI Mn)), (2, .int 0), (3, .int (nI x4)), (4, .int (nI T5))], [])) (f2 := (106, [(0, .ref 69), (1, .int (nI Mn)), (2, .int 0), (3, .int (nI x4)), (4, .int (nI T5))], [])) rfl (fun c4 => ?_) (fun c4 => absurd (by decide) (of_decide_eq_false c4))
              refine zx.adv 6 (f' := (116, [(0, .ref 69), (1, .int (nI Mn)), (2, .int 0), (3, .int (nI x4)), (4, .int (nI T5))], [.int (2 * (nI Mn)), .int 23, .ref 73])) (h' := zH u5 w t) rfl ?_
              rw [show 2 * (nI Mn) = nI (2 * Mn) from pk_mul 2 Mn]
              refine zx.adv 1 (f' := (117, [(0, .ref 69), (1, .int (nI Mn)), (2, .int 0), (3, .int (nI x4)), (4, .int (nI T5))], [.int (23 + (nI (2 * Mn))), .ref 73])) (h' := zH u5 w t) rfl ?_
              rw [show 23 + (nI (2 * Mn)) = nI (23 + (2 * Mn)) from nI_add 23 (2 * Mn)]
              refine zx.adv 1 (f' := (118, [(0, .ref 69), (1, .int (nI Mn)), (2, .int 0), (3, .int (nI x4)), (4, .int (nI T5))], [.int 0, .int (nI (23 + (2 * Mn))), .ref 73])) (h' := zH u5 w t) rfl ?_
              refine zx.ob (f' := (119, [(0, .ref 69), (1, .int (nI Mn)), (2, .int 0), (3, .int (nI x4)), (4, .int (nI T5))], [])) (h' := zH (zb u5 72 (upd (u5 72) (nI (23 + (2 * Mn))).toNatClampNeg 0)) w t) rfl (by first | exact zk_inN (by omega) (by decide) | decide) ?_
              rw [nI_clamp (show (23 + (2 * Mn)) < 2 ^ 31 by omega)]
              refine zx.adv 6 (f' := (128, [(0, .ref 69), (1, .int (nI Mn)), (2, .int 0), (3, .int (nI x4)), (4, .int (nI T5))], [.int (2 * (nI Mn)), .int 23, .ref 73])) (h' := zH (zb u5 72 (upd (u5 72) (23 + (2 * Mn)) 0)) w t) rfl ?_
              rw [show 2 * (nI Mn) = nI (2 * Mn) from pk_mul 2 Mn]
              refine zx.adv 1 (f' := (129, [(0, .ref 69), (1, .int (nI Mn)), (2, .int 0), (3, .int (nI x4)), (4, .int (nI T5))], [.int (23 + (nI (2 * Mn))), .ref 73])) (h' := zH (zb u5 72 (upd (u5 72) (23 + (2 * Mn)) 0)) w t) rfl ?_
              rw [show 23 + (nI (2 * Mn)) = nI (23 + (2 * Mn)) from nI_add 23 (2 * Mn)]
              refine zx.adv 2 (f' := (131, [(0, .ref 69), (1, .int (nI Mn)), (2, .int 0), (3, .int (nI x4)), (4, .int (nI T5))], [.int ((nI (23 + (2 * Mn))) + 1), .ref 73])) (h' := zH (zb u5 72 (upd (u5 72) (23 + (2 * Mn)) 0)) w t) rfl ?_
              rw [show (nI (23 + (2 * Mn))) + 1 = nI ((23 + (2 * Mn)) + 1) from nI_add (23 + (2 * Mn)) 1]
              refine zx.adv 1 (f' := (132, [(0, .ref 69), (1, .int (nI Mn)), (2, .int 0), (3, .int (nI x4)), (4, .int (nI T5))], [.int (nI x4), .int (nI ((23 + (2 * Mn)) + 1)), .ref 73])) (h' := zH (zb u5 72 (upd (u5 72) (23 + (2 * Mn)) 0)) w t) rfl ?_
              refine zx.ob (f' := (133, [(0, .ref 69), (1, .int (nI Mn)), (2, .int 0), (3, .int (nI x4)), (4, .int (nI T5))], [])) (h' := zH (zb u5 72 (upd (upd (u5 72) (23 + (2 * Mn)) 0) (nI ((23 + (2 * Mn)) + 1)).toNatClampNeg (nI x4))) w t) rfl (by first | exact zk_inN (by omega) (by decide) | decide) ?_
              rw [nI_clamp (show ((23 + (2 * Mn)) + 1) < 2 ^ 31 by omega)]
              refine zx.adv 4 (f' := (139, [(0, .ref 69), (1, .int (nI Mn)), (2, .int 0), (3, .int (nI x4)), (4, .int (nI T5))], [.int (nI x4), .int (nI Mn), .ref 75])) (h' := zH (zb u5 72 (upd (upd (u5 72) (23 + (2 * Mn)) 0) ((23 + (2 * Mn)) + 1) (nI x4))) w t) rfl ?_
              refine zx.ob (f' := (140, [(0, .ref 69), (1, .int (nI Mn)), (2, .int 0), (3, .int (nI x4)), (4, .int (nI T5))], [])) (h' := zH (zb (zb u5 72 (upd (upd (u5 72) (23 + (2 * Mn)) 0) ((23 + (2 * Mn)) + 1) (nI x4))) 74 (upd (u5 74) (nI Mn).toNatClampNeg (nI x4))) w t) rfl (by first | exact zk_inN (by omega) (by decide) | decide) ?_
              rw [nI_clamp (show Mn < 2 ^ 31 by omega)]
              refine zx.adv 5 (f' := (147, [(0, .ref 69), (1, .int (nI Mn)), (2, .int 0), (3, .int (nI x4)), (4, .int (nI T5))], [.int (5 + (nI Mn)), .ref 75])) (h' := zH (zb (zb u5 72 (upd (upd (u5 72) (23 + (2 * Mn)) 0) ((23 + (2 * Mn)) + 1) (nI x4))) 74 (upd (u5 74) Mn (nI x4))) w t) rfl ?_
              rw [show 5 + (nI Mn) = nI (5 + Mn) from nI_add 5 Mn]
              refine zx.adv 1 (f' := (149, [(0, .ref 69), (1, .int (nI Mn)), (2, .int 0), (3, .int (nI x4)), (4, .int (nI T5))], [.int (nI T5), .int (nI (5 + Mn)), .ref 75])) (h' := zH (zb (zb u5 72 (upd (upd (u5 72) (23 + (2 * Mn)) 0) ((23 + (2 * Mn)) + 1) (nI x4))) 74 (upd (u5 74) Mn (nI x4))) w t) rfl ?_
              refine zx.ob (f' := (150, [(0, .ref 69), (1, .int (nI Mn)), (2, .int 0), (3, .int (nI x4)), (4, .int (nI T5))], [])) (h' := zH (zb (zb u5 72 (upd (upd (u5 72) (23 + (2 * Mn)) 0) ((23 + (2 * Mn)) + 1) (nI x4))) 74 (upd (upd (u5 74) Mn (nI x4)) (nI (5 + Mn)).toNatClampNeg (nI T5))) w t) rfl (by first | exact zk_inN (by omega) (by decide) | decide) ?_
              rw [nI_clamp (show (5 + Mn) < 2 ^ 31 by omega)]
              refine zx.adv 4 (f' := (156, [(0, .ref 69), (1, .int (nI Mn)), (2, .int 0), (3, .int (nI x4)), (4, .int (nI T5))], [.int 2, .ref 73, .int 2, .ref 73])) (h' := zH (zb (zb u5 72 (upd (upd (u5 72) (23 + (2 * Mn)) 0) ((23 + (2 * Mn)) + 1) (nI x4))) 74 (upd (upd (u5 74) Mn (nI x4)) (5 + Mn) (nI T5))) w t) rfl ?_
              refine zx.ob (f' := (157, [(0, .ref 69), (1, .int (nI Mn)), (2, .int 0), (3, .int (nI x4)), (4, .int (nI T5))], [.int ((upd (upd (u5 72) (23 + (2 * Mn)) 0) ((23 + (2 * Mn)) + 1) (nI x4)) (2 : Int32).toNatClampNeg), .int 2, .ref 73])) (h' := zH (zb (zb u5 72 (upd (upd (u5 72) (23 + (2 * Mn)) 0) ((23 + (2 * Mn)) + 1) (nI x4))) 74 (upd (upd (u5 74) Mn (nI x4)) (5 + Mn) (nI T5))) w t) rfl rfl ?_
              show zx zk_mt zk_ex Ls xs zm_305 (157, [(0, .ref 69), (1, .int (nI Mn)), (2, .int 0), (3, .int (nI x4)), (4, .int (nI T5))], [.int ((upd (upd (u5 72) (23 + (2 * Mn)) 0) ((23 + (2 * Mn)) + 1) (nI x4)) 2), .int 2, .ref 73]) (zH (zb (zb u5 72 (upd (upd (u5 72) (23 + (2 * Mn)) 0) ((23 + (2 * Mn)) + 1) (nI x4))) 74 (upd (upd (u5 74) Mn (nI x4)) (5 + Mn) (nI T5))) w t) _
              rw [show (upd (upd (u5 72) (23 + (2 * Mn)) 0) ((23 + (2 * Mn)) + 1) (nI x4)) 2 = nI Mn from (((zE.g (g5.1 72 (by decide) (by decide)) (zE.g (g4.1 72 (by decide) (by decide)) (zE.g (g3.1 72 (by decide) (by decide)) e1))).u.u) 2 (by decide)).trans ((pk_un (show 2 ≠ ((23 + (2 * Mn)) + 1) by omega)).trans ((pk_un (show 2 ≠ (23 + (2 * Mn)) by omega)).trans h722))]
              refine zx.adv 2 (f' := (159, [(0, .ref 69), (1, .int (nI Mn)), (2, .int 0), (3, .int (nI x4)), (4, .int (nI T5))], [.int ((nI Mn) + 1), .int 2, .ref 73])) (h' := zH (zb (zb u5 72 (upd (upd (u5 72) (23 + (2 * Mn)) 0) ((23 + (2 * Mn)) + 1) (nI x4))) 74 (upd (upd (u5 74) Mn (nI x4)) (5 + Mn) (nI T5))) w t) rfl ?_
              rw [show (nI Mn) + 1 = nI (Mn + 1) from nI_add Mn 1]
              refine zx.ob (f' := (160, [(0, .ref 69), (1, .int (nI Mn)), (2, .int 0), (3, .int (nI x4)), (4, .int (nI T5))], [])) (h' := zH (zb (zb u5 72 (upd (upd (upd (u5 72) (23 + (2 * Mn)) 0) ((23 + (2 * Mn)) + 1) (nI x4)) (2 : Int32).toNatClampNeg (nI (Mn + 1)))) 74 (upd (upd (u5 74) Mn (nI x4)) (5 + Mn) (nI T5))) w t) rfl rfl ?_
              show zx zk_mt zk_ex Ls xs zm_305 (160, [(0, .ref 69), (1, .int (nI Mn)), (2, .int 0), (3, .int (nI x4)), (4, .int (nI T5))], []) (zH (zb (zb u5 72 (upd (upd (upd (u5 72) (23 + (2 * Mn)) 0) ((23 + (2 * Mn)) + 1) (nI x4)) 2 (nI (Mn + 1)))) 74 (upd (upd (u5 74) Mn (nI x4)) (5 + Mn) (nI T5))) w t) _
              exact zx.rt rfl rfl ⟨(zb (zb u5 72 (upd (upd (upd (u5 72) (23 + (2 * Mn)) 0) ((23 + (2 * Mn)) + 1) (nI x4)) 2 (nI (Mn + 1)))) 74 (upd (upd (u5 74) Mn (nI x4)) (5 + Mn) (nI T5))), rfl, ((((zMk.refl.steph g1).step g3).step g4).step g5).b72.b74, by rw [show zp_makerL tn ts tp tv k D Mn Gn Un l S = .inl (k5, (D, Mn + 1, Gn, Un, 1), (zb (zb (zb (zb l 4 (upd (l 4) 4 (nI (Mn + 1)))) 7 (upd (l 7) Mn (nI 0))) 8 (upd (l 8) Mn (nI x4))) 9 (upd (l 9) Mn (nI T5))), S1) by simp only [zp_makerL, zp_kind, zbd, hz1, if_pos hz2, hz4a, hz4b, hz5a, hz5b]]; exact ⟨s5, (zRN.u (by omega) (zRN.u (by omega) (zRN.u (by omega) (show zRN S1 (u5 72) by rw [g5.1 72 (by decide) (by decide)]; exact (show zRN S1 (u4 72) by rw [g4.1 72 (by decide) (by decide)]; exact (show zRN S1 (u3 72) by rw [g3.1 72 (by decide) (by decide)]; exact n1)))))), (zL_maker (x := 0) hcap (by decide) hx4 hT5 hL rfl (fun i h1 n0 n1 n2 => ((show zE (upd (upd (upd (u5 72) (23 + (2 * Mn)) 0) ((23 + (2 * Mn)) + 1) (nI x4)) 2 (nI (Mn + 1))) (upd (upd (upd (u 72) (23 + (2 * Mn)) 0) ((23 + (2 * Mn)) + 1) (nI x4)) 2 (nI (Mn + 1))) from (zE.g (g5.1 72 (by decide) (by decide)) (zE.g (g4.1 72 (by decide) (by decide)) (zE.g (g3.1 72 (by decide) (by decide)) e1))).u.u.u) i h1).trans ((pk_un n0).trans ((pk_un n2).trans (pk_un n1)))) (((show zE (upd (upd (upd (u5 72) (23 + (2 * Mn)) 0) ((23 + (2 * Mn)) + 1) (nI x4)) 2 (nI (Mn + 1))) (upd (upd (upd (u 72) (23 + (2 * Mn)) 0) ((23 + (2 * Mn)) + 1) (nI x4)) 2 (nI (Mn + 1))) from (zE.g (g5.1 72 (by decide) (by decide)) (zE.g (g4.1 72 (by decide) (by decide)) (zE.g (g3.1 72 (by decide) (by decide)) e1))).u.u.u) (2) (by omega)).trans pk_us) (((show zE (upd (upd (upd (u5 72) (23 + (2 * Mn)) 0) ((23 + (2 * Mn)) + 1) (nI x4)) 2 (nI (Mn + 1))) (upd (upd (upd (u 72) (23 + (2 * Mn)) 0) ((23 + (2 * Mn)) + 1) (nI x4)) 2 (nI (Mn + 1))) from (zE.g (g5.1 72 (by decide) (by decide)) (zE.g (g4.1 72 (by decide) (by decide)) (zE.g (g3.1 72 (by decide) (by decide)) e1))).u.u.u) (23 + 2 * Mn) (by omega)).trans ((pk_un (show 23 + 2 * Mn ≠ 2 by omega)).trans ((pk_un (show 23 + 2 * Mn ≠ ((23 + (2 * Mn)) + 1) by omega)).trans pk_us))) (((show zE (upd (upd (upd (u5 72) (23 + (2 * Mn)) 0) ((23 + (2 * Mn)) + 1) (nI x4)) 2 (nI (Mn + 1))) (upd (upd (upd (u 72) (23 + (2 * Mn)) 0) ((23 + (2 * Mn)) + 1) (nI x4)) 2 (nI (Mn + 1))) from (zE.g (g5.1 72 (by decide) (by decide)) (zE.g (g4.1 72 (by decide) (by decide)) (zE.g (g3.1 72 (by decide) (by decide)) e1))).u.u.u) (23 + 2 * Mn + 1) (by omega)).trans ((pk_un (show 23 + 2 * Mn + 1 ≠ 2 by omega)).trans pk_us)) (fun i h1 n0 n1 => ((pk_un n1).trans ((pk_un n0).trans (congrFun ((g5.1 74 (by decide) (by decide)).trans ((g4.1 74 (by decide) (by decide)).trans ((g3.1 74 (by decide) (by decide)).trans ((g1.1 74 (by decide) (by decide) (by decide)).trans rfl)))) i)))) ((pk_un (show Mn ≠ (5 + Mn) by omega)).trans pk_us) (pk_us))⟩⟩
            · obtain ⟨u5, rv5, q5, g5, r5⟩ := zm_dangers (w := w) (t := t) (u := u4) hM (zw_thinks (Ls := Ls) (xs := xs)) s4 (show zRN S1 (u4 72) by rw [g4.1 72 (by decide) (by decide)]; exact (show zRN S1 (u3 72) by rw [g3.1 72 (by decide) (by decide)]; exact n1))
              rw [hz5c] at r5
              have y5 : zMx f5 p5 u5 := r5
              refine zx.cl (v := some (.int rv5)) (h' := zH u5 w t) rfl q5 ?_
              show zx zk_mt zk_ex Ls xs zm_305 (97, [(0, .ref 69), (1, .int (nI Mn)), (2, .int 0), (3, .int (nI x4))], [.int rv5]) (zH u5 w t) _
              refine zx.adv 3 (f' := (103, [(0, .ref 69), (1, .int (nI Mn)), (2, .int 0), (3, .int (nI x4)), (4, .int rv5)], [.int (u5 68 13)])) (h' := zH u5 w t) rfl ?_
              rw [show (u5 68 13) = 1 from y5.1]
              refine zx.br (f1 := (107, [(0, .ref 69), (1, .int (nI Mn)), (2, .int 0), (3, .int (nI x4)), (4, .int rv5)], [])) (f2 := (106, [(0, .ref 69), (1, .int (nI Mn)), (2, .int 0), (3, .int (nI x4)), (4, .int rv5)], [])) rfl (fun c5 => absurd (of_decide_eq_true c5) (by decide)) (fun c5 => ?_)
              exact zx.rt rfl rfl ⟨u5, rfl, ((((zMk.refl.steph g1).step g3).step g4).step g5), by rw [show zp_makerL tn ts tp tv k D Mn Gn Un l S = .inr (f5, p5) by simp only [zp_makerL, zp_kind, zbd, hz1, if_pos hz2, hz4a, hz4b, hz5a]]; exact y5⟩
            · obtain ⟨u5, rv5, q5, g5, r5⟩ := zm_dangers (w := w) (t := t) (u := u4) hM (zw_thinks (Ls := Ls) (xs := xs)) s4 (show zRN S1 (u4 72) by rw [g4.1 72 (by decide) (by decide)]; exact (show zRN S1 (u3 72) by rw [g3.1 72 (by decide) (by decide)]; exact n1))
              rw [hz5c] at r5
              have y5 : zMx f5 p5 u5 := r5
              refine zx.cl (v := some (.int rv5)) (h' := zH u5 w t) rfl q5 ?_
              show zx zk_mt zk_ex Ls xs zm_305 (97, [(0, .ref 69), (1, .int (nI Mn)), (2, .int 0), (3, .int (nI x4))], [.int rv5]) (zH u5 w t) _
              refine zx.adv 3 (f' := (103, [(0, .ref 69), (1, .int (nI Mn)), (2, .int 0), (3, .int (nI x4)), (4, .int rv5)], [.int (u5 68 13)])) (h' := zH u5 w t) rfl ?_
              rw [show (u5 68 13) = 1 from y5.1]
              refine zx.br (f1 := (107, [(0, .ref 69), (1, .int (nI Mn)), (2, .int 0), (3, .int (nI x4)), (4, .int rv5)], [])) (f2 := (106, [(0, .ref 69), (1, .int (nI Mn)), (2, .int 0), (3, .int (nI x4)), (4, .int rv5)], [])) rfl (fun c6 => absurd (of_decide_eq_true c6) (by decide)) (fun c6 => ?_)
              exact zx.rt rfl rfl ⟨u5, rfl, ((((zMk.refl.steph g1).step g3).step g4).step g5), by rw [show zp_makerL tn ts tp tv k D Mn Gn Un l S = .inr (f5, p5) by simp only [zp_makerL, zp_kind, zbd, hz1, if_pos hz2, hz4a, hz4b, hz5a, hz5b]]; exact y5⟩
          · obtain ⟨u4, q4, g4, r4⟩ := zm_after (w := w) (t := t) (u := u3) hM (zw_lasts (Ls := Ls) (xs := xs)) (lo := 1) (hi := 30) (by decide) (by decide) s3
            rw [hz4c] at q4 r4
            have y4 : zMx f4 p4 u4 := r4
            refine zx.cl (v := some (.int (nI 1))) (h' := zH u4 w t) rfl q4 ?_
            show zx zk_mt zk_ex Ls xs zm_305 (90, [(0, .ref 69), (1, .int (nI Mn)), (2, .int 0)], [.int (nI 1)]) (zH u4 w t) _
            refine zx.adv 3 (f' := (94, [(0, .ref 69), (1, .int (nI Mn)), (2, .int 0), (3, .int (nI 1))], [.retAddr 33, .ref 69])) (h' := zH u4 w t) rfl ?_
            refine zx.cl (v := some (.int 0)) (h' := zH u4 w t) rfl (zm_dangers_x (u := u4) 33 y4.1) ?_
            show zx zk_mt zk_ex Ls xs zm_305 (97, [(0, .ref 69), (1, .int (nI Mn)), (2, .int 0), (3, .int (nI 1))], [.int 0]) (zH u4 w t) _
            refine zx.adv 3 (f' := (103, [(0, .ref 69), (1, .int (nI Mn)), (2, .int 0), (3, .int (nI 1)), (4, .int 0)], [.int (u4 68 13)])) (h' := zH u4 w t) rfl ?_
            rw [show (u4 68 13) = 1 from y4.1]
            refine zx.br (f1 := (107, [(0, .ref 69), (1, .int (nI Mn)), (2, .int 0), (3, .int (nI 1)), (4, .int 0)], [])) (f2 := (106, [(0, .ref 69), (1, .int (nI Mn)), (2, .int 0), (3, .int (nI 1)), (4, .int 0)], [])) rfl (fun c7 => absurd (of_decide_eq_true c7) (by decide)) (fun c7 => ?_)
            exact zx.rt rfl rfl ⟨u4, rfl, (((zMk.refl.steph g1).step g3).step g4), by rw [show zp_makerL tn ts tp tv k D Mn Gn Un l S = .inr (f4, p4) by simp only [zp_makerL, zp_kind, zbd, hz1, if_pos hz2, hz4a]]; exact y4⟩
          · obtain ⟨u4, q4, g4, r4⟩ := zm_after (w := w) (t := t) (u := u3) hM (zw_lasts (Ls := Ls) (xs := xs)) (lo := 1) (hi := 30) (by decide) (by decide) s3
            rw [hz4c] at q4 r4
            have y4 : zMx f4 p4 u4 := r4
            refine zx.cl (v := some (.int (nI 1))) (h' := zH u4 w t) rfl q4 ?_
            show zx zk_mt zk_ex Ls xs zm_305 (90, [(0, .ref 69), (1, .int (nI Mn)), (2, .int 0)], [.int (nI 1)]) (zH u4 w t) _
            refine zx.adv 3 (f' := (94, [(0, .ref 69), (1, .int (nI Mn)), (2, .int 0), (3, .int (nI 1))], [.retAddr 33, .ref 69])) (h' := zH u4 w t) rfl ?_
            refine zx.cl (v := some (.int 0)) (h' := zH u4 w t) rfl (zm_dangers_x (u := u4) 33 y4.1) ?_
            show zx zk_mt zk_ex Ls xs zm_305 (97, [(0, .ref 69), (1, .int (nI Mn)), (2, .int 0), (3, .int (nI 1))], [.int 0]) (zH u4 w t) _
            refine zx.adv 3 (f' := (103, [(0, .ref 69), (1, .int (nI Mn)), (2, .int 0), (3, .int (nI 1)), (4, .int 0)], [.int (u4 68 13)])) (h' := zH u4 w t) rfl ?_
            rw [show (u4 68 13) = 1 from y4.1]
            refine zx.br (f1 := (107, [(0, .ref 69), (1, .int (nI Mn)), (2, .int 0), (3, .int (nI 1)), (4, .int 0)], [])) (f2 := (106, [(0, .ref 69), (1, .int (nI Mn)), (2, .int 0), (3, .int (nI 1)), (4, .int 0)], [])) rfl (fun c8 => absurd (of_decide_eq_true c8) (by decide)) (fun c8 => ?_)
            exact zx.rt rfl rfl ⟨u4, rfl, (((zMk.refl.steph g1).step g3).step g4), by rw [show zp_makerL tn ts tp tv k D Mn Gn Un l S = .inr (f4, p4) by simp only [zp_makerL, zp_kind, zbd, hz1, if_pos hz2, hz4a, hz4b]]; exact y4⟩
      · refine zx.cl (v := some (.int 0)) (h' := zH u1 w t) rfl (by have ee := zm_isWord (w := w) (t := t) (u := u1) (zw_grave (Ls := Ls) (xs := xs)) s1; rw [if_neg hz2] at ee; exact ee) ?_
        show zx zk_mt zk_ex Ls xs zm_305 (29, [(0, .ref 69), (1, .int (nI Mn))], [.int 0]) (zH u1 w t) _
        refine zx.br (f1 := (36, [(0, .ref 69), (1, .int (nI Mn))], [])) (f2 := (32, [(0, .ref 69), (1, .int (nI Mn))], [])) rfl (fun c9 => ?_) (fun c9 => absurd (by decide) (of_decide_eq_false c9))
        refine zx.adv 2 (f' := (39, [(0, .ref 69), (1, .int (nI Mn))], [.retAddr 30, .ref 69])) (h' := zH u1 w t) rfl ?_
        by_cases hz6 : ts k1 = 2 ∧ tv k1 = 8441497
        · refine zx.cl (v := some (.int 1)) (h' := zH u1 w t) rfl (by have ee := zm_isWord (w := w) (t := t) (u := u1) (zw_hasty (Ls := Ls) (xs := xs)) s1; rw [if_pos hz6] at ee; exact ee) ?_
          show zx zk_mt zk_ex Ls xs zm_305 (42, [(0, .ref 69), (1, .int (nI Mn))], [.int 1]) (zH u1 w t) _
          refine zx.br (f1 := (49, [(0, .ref 69), (1, .int (nI Mn))], [])) (f2 := (45, [(0, .ref 69), (1, .int (nI Mn))], [])) rfl (fun c10 => absurd (of_decide_eq_true c10) (by decide)) (fun c10 => ?_)
          refine zx.adv 4 (f' := (65, [(0, .ref 69), (1, .int (nI Mn)), (2, .int 1)], [.int 1])) (h' := zH u1 w t) rfl ?_
          refine zx.br (f1 := (77, [(0, .ref 69), (1, .int (nI Mn)), (2, .int 1)], [])) (f2 := (68, [(0, .ref 69), (1, .int (nI Mn)), (2, .int 1)], [])) rfl (fun c11 => ?_) (fun c11 => absurd (by decide) (of_decide_eq_false c11))
          refine zx.adv 1 (f' := (78, [(0, .ref 69), (1, .int (nI Mn)), (2, .int 1)], [.ref 69])) (h' := zH u1 w t) rfl ?_
          skip
          · obtain ⟨u7, q7, g7, s7⟩ := zm_pass (w := w) (t := t) (u := u1) hM s1
            refine zx.cl (v := none) (h' := zH u7 w t) rfl q7 ?_
            show zx zk_mt zk_ex Ls xs zm_305 (81, [(0, .ref 69), (1, .int (nI Mn)), (2, .int 1)], []) (zH u7 w t) _
            refine zx.adv 4 (f' := (87, [(0, .ref 69), (1, .int (nI Mn)), (2, .int 1)], [.int 30, .int 1, .retAddr 32, .ref 69])) (h' := zH u7 w t) rfl ?_
            rcases zp_aft_cases tn ts tp tv 12635795 1 30 (tn k1) with ⟨k8a, k8, x8, hz8a, hz8b, hz8c⟩ | ⟨f8, p8, hz8a, hz8c⟩ | ⟨k8a, f8, p8, hz8a, hz8b, hz8c⟩
            · obtain ⟨u8, q8, g8, r8⟩ := zm_after (w := w) (t := t) (u := u7) hM (zw_lasts (Ls := Ls) (xs := xs)) (lo := 1) (hi := 30) (by decide) (by decide) s7
              rw [hz8c] at q8 r8
              have s8 : zMs tn ts tp tv E B k8 u8 := r8
              have hx8 := zp_num_in hz8b
              refine zx.cl (v := some (.int (nI x8))) (h' := zH u8 w t) rfl q8 ?_
              show zx zk_mt zk_ex Ls xs zm_305 (90, [(0, .ref 69), (1, .int (nI Mn)), (2, .int 1)], [.int (nI x8)]) (zH u8 w t) _
              refine zx.adv 3 (f' := (94, [(0, .ref 69), (1, .int (nI Mn)), (2, .int 1), (3, .int (nI x8))], [.retAddr 33, .ref 69])) (h' := zH u8 w t) rfl ?_
              rcases zp_dgs_cases tn ts tp tv 679786867 S1 k8 with ⟨k9a, k9, b9, hz9a, hz9b, hz9c⟩ | ⟨f9, p9, hz9a, hz9c⟩ | ⟨k9a, f9, p9, hz9a, hz9b, hz9c⟩
              · obtain ⟨T9, hT9, hb9⟩ := zp_dng_lt hD8 hS8 hT hM.1 9 0 _ _ _ (zp_kw_E hM.1 s8.1.1 hz9a) (Nat.two_pow_pos D) hz9b
                subst hb9
                obtain ⟨u9, rv9, q9, g9, r9⟩ := zm_dangers (w := w) (t := t) (u := u8) hM (zw_thinks (Ls := Ls) (xs := xs)) s8 (show zRN S1 (u8 72) by rw [g8.1 72 (by decide) (by decide)]; exact (show zRN S1 (u7 72) by rw [g7.1 72 (by decide) (by decide)]; exact n1))
                rw [hz9c] at r9
                obtain ⟨rb9, s9⟩ : rv9 = nI T9 ∧ zMs tn ts tp tv E B k9 u9 := r9
                rw [rb9] at q9
                refine zx.cl (v := some (.int (nI T9))) (h' := zH u9 w t) rfl q9 ?_
                show zx zk_mt zk_ex Ls xs zm_305 (97, [(0, .ref 69), (1, .int (nI Mn)), (2, .int 1), (3, .int (nI x8))], [.int (nI T9)]) (zH u9 w t) _
                refine zx.adv 3 (f' := (103, [(0, .ref 69), (1, .int (nI Mn)), (2, .int 1), (3, .int (nI x8)), (4, .int (nI T9))], [.int (u9 68 13)])) (h' := zH u9 w t) rfl ?_
                rw [show (u9 68 13) = 0 from s9.2.2]
                refine zx.br (f1 := (107, [(0, .ref 69), (1, .int (nI Mn)), (2, .int 1), (3, .int (nI x8)), (4, .int (nI T9))], [])) (f2 := (106, [(0, .ref 69), (1, .int (nI Mn)), (2, .int 1), (3, .int (nI x8)), (4, .int (nI T9))], [])) rfl (fun c12 => ?_) (fun c12 => absurd (by decide) (of_decide_eq_false c12))
                refine zx.adv 6 (f' := (116, [(0, .ref 69), (1, .int (nI Mn)), (2, .int 1), (3, .int (nI x8)), (4, .int (nI T9))], [.int (2 * (nI Mn)), .int 23, .ref 73])) (h' := zH u9 w t) rfl ?_
                rw [show 2 * (nI Mn) = nI (2 * Mn) from pk_mul 2 Mn]
                refine zx.adv 1 (f' := (117, [(0, .ref 69), (1, .int (nI Mn)), (2, .int 1), (3, .int (nI x8)), (4, .int (nI T9))], [.int (23 + (nI (2 * Mn))), .ref 73])) (h' := zH u9 w t) rfl ?_
                rw [show 23 + (nI (2 * Mn)) = nI (23 + (2 * Mn)) from nI_add 23 (2 * Mn)]
                refine zx.adv 1 (f' := (118, [(0, .ref 69), (1, .int (nI Mn)), (2, .int 1), (3, .int (nI x8)), (4, .int (nI T9))], [.int 1, .int (nI (23 + (2 * Mn))), .ref 73])) (h' := zH u9 w t) rfl ?_
                refine zx.ob (f' := (119, [(0, .ref 69), (1, .int (nI Mn)), (2, .int 1), (3, .int (nI x8)), (4, .int (nI T9))], [])) (h' := zH (zb u9 72 (upd (u9 72) (nI (23 + (2 * Mn))).toNatClampNeg 1)) w t) rfl (by first | exact zk_inN (by omega) (by decide) | decide) ?_
                rw [nI_clamp (show (23 + (2 * Mn)) < 2 ^ 31 by omega)]
                refine zx.adv 6 (f' := (128, [(0, .ref 69), (1, .int (nI Mn)), (2, .int 1), (3, .int (nI x8)), (4, .int (nI T9))], [.int (2 * (nI Mn)), .int 23, .ref 73])) (h' := zH (zb u9 72 (upd (u9 72) (23 + (2 * Mn)) 1)) w t) rfl ?_
                rw [show 2 * (nI Mn) = nI (2 * Mn) from pk_mul 2 Mn]
                refine zx.adv 1 (f' := (129, [(0, .ref 69), (1, .int (nI Mn)), (2, .int 1), (3, .int (nI x8)), (4, .int (nI T9))], [.int (23 + (nI (2 * Mn))), .ref 73])) (h' := zH (zb u9 72 (upd (u9 72) (23 + (2 * Mn)) 1)) w t) rfl ?_
                rw [show 23 + (nI (2 * Mn)) = nI (23 + (2 * Mn)) from nI_add 23 (2 * Mn)]
                refine zx.adv 2 (f' := (131, [(0, .ref 69), (1, .int (nI Mn)), (2, .int 1), (3, .int (nI x8)), (4, .int (nI T9))], [.int ((nI (23 + (2 * Mn))) + 1), .ref 73])) (h' := zH (zb u9 72 (upd (u9 72) (23 + (2 * Mn)) 1)) w t) rfl ?_
                rw [show (nI (23 + (2 * Mn))) + 1 = nI ((23 + (2 * Mn)) + 1) from nI_add (23 + (2 * Mn)) 1]
                refine zx.adv 1 (f' := (132, [(0, .ref 69), (1, .int (nI Mn)), (2, .int 1), (3, .int (nI x8)), (4, .int (nI T9))], [.int (nI x8), .int (nI ((23 + (2 * Mn)) + 1)), .ref 73])) (h' := zH (zb u9 72 (upd (u9 72) (23 + (2 * Mn)) 1)) w t) rfl ?_
                refine zx.ob (f' := (133, [(0, .ref 69), (1, .int (nI Mn)), (2, .int 1), (3, .int (nI x8)), (4, .int (nI T9))], [])) (h' := zH (zb u9 72 (upd (upd (u9 72) (23 + (2 * Mn)) 1) (nI ((23 + (2 * Mn)) + 1)).toNatClampNeg (nI x8))) w t) rfl (by first | exact zk_inN (by omega) (by decide) | decide) ?_
                rw [nI_clamp (show ((23 + (2 * Mn)) + 1) < 2 ^ 31 by omega)]
                refine zx.adv 4 (f' := (139, [(0, .ref 69), (1, .int (nI Mn)), (2, .int 1), (3, .int (nI x8)), (4, .int (nI T9))], [.int (nI x8), .int (nI Mn), .ref 75])) (h' := zH (zb u9 72 (upd (upd (u9 72) (23 + (2 * Mn)) 1) ((23 + (2 * Mn)) + 1) (nI x8))) w t) rfl ?_
                refine zx.ob (f' := (140, [(0, .ref 69), (1, .int (nI Mn)), (2, .int 1), (3, .int (nI x8)), (4, .int (nI T9))], [])) (h' := zH (zb (zb u9 72 (upd (upd (u9 72) (23 + (2 * Mn)) 1) ((23 + (2 * Mn)) + 1) (nI x8))) 74 (upd (u9 74) (nI Mn).toNatClampNeg (nI x8))) w t) rfl (by first | exact zk_inN (by omega) (by decide) | decide) ?_
                rw [nI_clamp (show Mn < 2 ^ 31 by omega)]
                refine zx.adv 5 (f' := (147, [(0, .ref 69), (1, .int (nI Mn)), (2, .int 1), (3, .int (nI x8)), (4, .int (nI T9))], [.int (5 + (nI Mn)), .ref 75])) (h' := zH (zb (zb u9 72 (upd (upd (u9 72) (23 + (2 * Mn)) 1) ((23 + (2 * Mn)) + 1) (nI x8))) 74 (upd (u9 74) Mn (nI x8))) w t) rfl ?_
                rw [show 5 + (nI Mn) = nI (5 + Mn) from nI_add 5 Mn]
                refine zx.adv 1 (f' := (149, [(0, .ref 69), (1, .int (nI Mn)), (2, .int 1), (3, .int (nI x8)), (4, .int (nI T9))], [.int (nI T9), .int (nI (5 + Mn)), .ref 75])) (h' := zH (zb (zb u9 72 (upd (upd (u9 72) (23 + (2 * Mn)) 1) ((23 + (2 * Mn)) + 1) (nI x8))) 74 (upd (u9 74) Mn (nI x8))) w t) rfl ?_
                refine zx.ob (f' := (150, [(0, .ref 69), (1, .int (nI Mn)), (2, .int 1), (3, .int (nI x8)), (4, .int (nI T9))], [])) (h' := zH (zb (zb u9 72 (upd (upd (u9 72) (23 + (2 * Mn)) 1) ((23 + (2 * Mn)) + 1) (nI x8))) 74 (upd (upd (u9 74) Mn (nI x8)) (nI (5 + Mn)).toNatClampNeg (nI T9))) w t) rfl (by first | exact zk_inN (by omega) (by decide) | decide) ?_
                rw [nI_clamp (show (5 + Mn) < 2 ^ 31 by omega)]
                refine zx.adv 4 (f' := (156, [(0, .ref 69), (1, .int (nI Mn)), (2, .int 1), (3, .int (nI x8)), (4, .int (nI T9))], [.int 2, .ref 73, .int 2, .ref 73])) (h' := zH (zb (zb u9 72 (upd (upd (u9 72) (23 + (2 * Mn)) 1) ((23 + (2 * Mn)) + 1) (nI x8))) 74 (upd (upd (u9 74) Mn (nI x8)) (5 + Mn) (nI T9))) w t) rfl ?_
                refine zx.ob (f' := (157, [(0, .ref 69), (1, .int (nI Mn)), (2, .int 1), (3, .int (nI x8)), (4, .int (nI T9))], [.int ((upd (upd (u9 72) (23 + (2 * Mn)) 1) ((23 + (2 * Mn)) + 1) (nI x8)) (2 : Int32).toNatClampNeg), .int 2, .ref 73])) (h' := zH (zb (zb u9 72 (upd (upd (u9 72) (23 + (2 * Mn)) 1) ((23 + (2 * Mn)) + 1) (nI x8))) 74 (upd (upd (u9 74) Mn (nI x8)) (5 + Mn) (nI T9))) w t) rfl rfl ?_
                show zx zk_mt zk_ex Ls xs zm_305 (157, [(0, .ref 69), (1, .int (nI Mn)), (2, .int 1), (3, .int (nI x8)), (4, .int (nI T9))], [.int ((upd (upd (u9 72) (23 + (2 * Mn)) 1) ((23 + (2 * Mn)) + 1) (nI x8)) 2), .int 2, .ref 73]) (zH (zb (zb u9 72 (upd (upd (u9 72) (23 + (2 * Mn)) 1) ((23 + (2 * Mn)) + 1) (nI x8))) 74 (upd (upd (u9 74) Mn (nI x8)) (5 + Mn) (nI T9))) w t) _
                rw [show (upd (upd (u9 72) (23 + (2 * Mn)) 1) ((23 + (2 * Mn)) + 1) (nI x8)) 2 = nI Mn from (((zE.g (g9.1 72 (by decide) (by decide)) (zE.g (g8.1 72 (by decide) (by decide)) (zE.g (g7.1 72 (by decide) (by decide)) e1))).u.u) 2 (by decide)).trans ((pk_un (show 2 ≠ ((23 + (2 * Mn)) + 1) by omega)).trans ((pk_un (show 2 ≠ (23 + (2 * Mn)) by omega)).trans h722))]
                refine zx.adv 2 (f' := (159, [(0, .ref 69), (1, .int (nI Mn)), (2, .int 1), (3, .int (nI x8)), (4, .int (nI T9))], [.int ((nI Mn) + 1), .int 2, .ref 73])) (h' := zH (zb (zb u9 72 (upd (upd (u9 72) (23 + (2 * Mn)) 1) ((23 + (2 * Mn)) + 1) (nI x8))) 74 (upd (upd (u9 74) Mn (nI x8)) (5 + Mn) (nI T9))) w t) rfl ?_
                rw [show (nI Mn) + 1 = nI (Mn + 1) from nI_add Mn 1]
                refine zx.ob (f' := (160, [(0, .ref 69), (1, .int (nI Mn)), (2, .int 1), (3, .int (nI x8)), (4, .int (nI T9))], [])) (h' := zH (zb (zb u9 72 (upd (upd (upd (u9 72) (23 + (2 * Mn)) 1) ((23 + (2 * Mn)) + 1) (nI x8)) (2 : Int32).toNatClampNeg (nI (Mn + 1)))) 74 (upd (upd (u9 74) Mn (nI x8)) (5 + Mn) (nI T9))) w t) rfl rfl ?_
                show zx zk_mt zk_ex Ls xs zm_305 (160, [(0, .ref 69), (1, .int (nI Mn)), (2, .int 1), (3, .int (nI x8)), (4, .int (nI T9))], []) (zH (zb (zb u9 72 (upd (upd (upd (u9 72) (23 + (2 * Mn)) 1) ((23 + (2 * Mn)) + 1) (nI x8)) 2 (nI (Mn + 1)))) 74 (upd (upd (u9 74) Mn (nI x8)) (5 + Mn) (nI T9))) w t) _
                exact zx.rt rfl rfl ⟨(zb (zb u9 72 (upd (upd (upd (u9 72) (23 + (2 * Mn)) 1) ((23 + (2 * Mn)) + 1) (nI x8)) 2 (nI (Mn + 1)))) 74 (upd (upd (u9 74) Mn (nI x8)) (5 + Mn) (nI T9))), rfl, ((((zMk.refl.steph g1).step g7).step g8).step g9).b72.b74, by rw [show zp_makerL tn ts tp tv k D Mn Gn Un l S = .inl (k9, (D, Mn + 1, Gn, Un, 1), (zb (zb (zb (zb l 4 (upd (l 4) 4 (nI (Mn + 1)))) 7 (upd (l 7) Mn (nI 1))) 8 (upd (l 8) Mn (nI x8))) 9 (upd (l 9) Mn (nI T9))), S1) by simp only [zp_makerL, zp_kind, zbd, hz1, if_neg hz2, if_pos hz6, hz8a, hz8b, hz9a, hz9b]]; exact ⟨s9, (zRN.u (by omega) (zRN.u (by omega) (zRN.u (by omega) (show zRN S1 (u9 72) by rw [g9.1 72 (by decide) (by decide)]; exact (show zRN S1 (u8 72) by rw [g8.1 72 (by decide) (by decide)]; exact (show zRN S1 (u7 72) by rw [g7.1 72 (by decide) (by decide)]; exact n1)))))), (zL_maker (x := 1) hcap (by decide) hx8 hT9 hL rfl (fun i h1 n0 n1 n2 => ((show zE (upd (upd (upd (u9 72) (23 + (2 * Mn)) 1) ((23 + (2 * Mn)) + 1) (nI x8)) 2 (nI (Mn + 1))) (upd (upd (upd (u 72) (23 + (2 * Mn)) 1) ((23 + (2 * Mn)) + 1) (nI x8)) 2 (nI (Mn + 1))) from (zE.g (g9.1 72 (by decide) (by decide)) (zE.g (g8.1 72 (by decide) (by decide)) (zE.g (g7.1 72 (by decide) (by decide)) e1))).u.u.u) i h1).trans ((pk_un n0).trans ((pk_un n2).trans (pk_un n1)))) (((show zE (upd (upd (upd (u9 72) (23 + (2 * Mn)) 1) ((23 + (2 * Mn)) + 1) (nI x8)) 2 (nI (Mn + 1))) (upd (upd (upd (u 72) (23 + (2 * Mn)) 1) ((23 + (2 * Mn)) + 1) (nI x8)) 2 (nI (Mn + 1))) from (zE.g (g9.1 72 (by decide) (by decide)) (zE.g (g8.1 72 (by decide) (by decide)) (zE.g (g7.1 72 (by decide) (by decide)) e1))).u.u.u) (2) (by omega)).trans pk_us) (((show zE (upd (upd (upd (u9 72) (23 + (2 * Mn)) 1) ((23 + (2 * Mn)) + 1) (nI x8)) 2 (nI (Mn + 1))) (upd (upd (upd (u 72) (23 + (2 * Mn)) 1) ((23 + (2 * Mn)) + 1) (nI x8)) 2 (nI (Mn + 1))) from (zE.g (g9.1 72 (by decide) (by decide)) (zE.g (g8.1 72 (by decide) (by decide)) (zE.g (g7.1 72 (by decide) (by decide)) e1))).u.u.u) (23 + 2 * Mn) (by omega)).trans ((pk_un (show 23 + 2 * Mn ≠ 2 by omega)).trans ((pk_un (show 23 + 2 * Mn ≠ ((23 + (2 * Mn)) + 1) by omega)).trans pk_us))) (((show zE (upd (upd (upd (u9 72) (23 + (2 * Mn)) 1) ((23 + (2 * Mn)) + 1) (nI x8)) 2 (nI (Mn + 1))) (upd (upd (upd (u 72) (23 + (2 * Mn)) 1) ((23 + (2 * Mn)) + 1) (nI x8)) 2 (nI (Mn + 1))) from (zE.g (g9.1 72 (by decide) (by decide)) (zE.g (g8.1 72 (by decide) (by decide)) (zE.g (g7.1 72 (by decide) (by decide)) e1))).u.u.u) (23 + 2 * Mn + 1) (by omega)).trans ((pk_un (show 23 + 2 * Mn + 1 ≠ 2 by omega)).trans pk_us)) (fun i h1 n0 n1 => ((pk_un n1).trans ((pk_un n0).trans (congrFun ((g9.1 74 (by decide) (by decide)).trans ((g8.1 74 (by decide) (by decide)).trans ((g7.1 74 (by decide) (by decide)).trans ((g1.1 74 (by decide) (by decide) (by decide)).trans rfl)))) i)))) ((pk_un (show Mn ≠ (5 + Mn) by omega)).trans pk_us) (pk_us))⟩⟩
              · obtain ⟨u9, rv9, q9, g9, r9⟩ := zm_dangers (w := w) (t := t) (u := u8) hM (zw_thinks (Ls := Ls) (xs := xs)) s8 (show zRN S1 (u8 72) by rw [g8.1 72 (by decide) (by decide)]; exact (show zRN S1 (u7 72) by rw [g7.1 72 (by decide) (by decide)]; exact n1))
                rw [hz9c] at r9
                have y9 : zMx f9 p9 u9 := r9
                refine zx.cl (v := some (.int rv9)) (h' := zH u9 w t) rfl q9 ?_
                show zx zk_mt zk_ex Ls xs zm_305 (97, [(0, .ref 69), (1, .int (nI Mn)), (2, .int 1), (3, .int (nI x8))], [.int rv9]) (zH u9 w t) _
                refine zx.adv 3 (f' := (103, [(0, .ref 69), (1, .int (nI Mn)), (2, .int 1), (3, .int (nI x8)), (4, .int rv9)], [.int (u9 68 13)])) (h' := zH u9 w t) rfl ?_
                rw [show (u9 68 13) = 1 from y9.1]
                refine zx.br (f1 := (107, [(0, .ref 69), (1, .int (nI Mn)), (2, .int 1), (3, .int (nI x8)), (4, .int rv9)], [])) (f2 := (106, [(0, .ref 69), (1, .int (nI Mn)), (2, .int 1), (3, .int (nI x8)), (4, .int rv9)], [])) rfl (fun c13 => absurd (of_decide_eq_true c13) (by decide)) (fun c13 => ?_)
                exact zx.rt rfl rfl ⟨u9, rfl, ((((zMk.refl.steph g1).step g7).step g8).step g9), by rw [show zp_makerL tn ts tp tv k D Mn Gn Un l S = .inr (f9, p9) by simp only [zp_makerL, zp_kind, zbd, hz1, if_neg hz2, if_pos hz6, hz8a, hz8b, hz9a]]; exact y9⟩
              · obtain ⟨u9, rv9, q9, g9, r9⟩ := zm_dangers (w := w) (t := t) (u := u8) hM (zw_thinks (Ls := Ls) (xs := xs)) s8 (show zRN S1 (u8 72) by rw [g8.1 72 (by decide) (by decide)]; exact (show zRN S1 (u7 72) by rw [g7.1 72 (by decide) (by decide)]; exact n1))
                rw [hz9c] at r9
                have y9 : zMx f9 p9 u9 := r9
                refine zx.cl (v := some (.int rv9)) (h' := zH u9 w t) rfl q9 ?_
                show zx zk_mt zk_ex Ls xs zm_305 (97, [(0, .ref 69), (1, .int (nI Mn)), (2, .int 1), (3, .int (nI x8))], [.int rv9]) (zH u9 w t) _
                refine zx.adv 3 (f' := (103, [(0, .ref 69), (1, .int (nI Mn)), (2, .int 1), (3, .int (nI x8)), (4, .int rv9)], [.int (u9 68 13)])) (h' := zH u9 w t) rfl ?_
                rw [show (u9 68 13) = 1 from y9.1]
                refine zx.br (f1 := (107, [(0, .ref 69), (1, .int (nI Mn)), (2, .int 1), (3, .int (nI x8)), (4, .int rv9)], [])) (f2 := (106, [(0, .ref 69), (1, .int (nI Mn)), (2, .int 1), (3, .int (nI x8)), (4, .int rv9)], [])) rfl (fun c14 => absurd (of_decide_eq_true c14) (by decide)) (fun c14 => ?_)
                exact zx.rt rfl rfl ⟨u9, rfl, ((((zMk.refl.steph g1).step g7).step g8).step g9), by rw [show zp_makerL tn ts tp tv k D Mn Gn Un l S = .inr (f9, p9) by simp only [zp_makerL, zp_kind, zbd, hz1, if_neg hz2, if_pos hz6, hz8a, hz8b, hz9a, hz9b]]; exact y9⟩
            · obtain ⟨u8, q8, g8, r8⟩ := zm_after (w := w) (t := t) (u := u7) hM (zw_lasts (Ls := Ls) (xs := xs)) (lo := 1) (hi := 30) (by decide) (by decide) s7
              rw [hz8c] at q8 r8
              have y8 : zMx f8 p8 u8 := r8
              refine zx.cl (v := some (.int (nI 1))) (h' := zH u8 w t) rfl q8 ?_
              show zx zk_mt zk_ex Ls xs zm_305 (90, [(0, .ref 69), (1, .int (nI Mn)), (2, .int 1)], [.int (nI 1)]) (zH u8 w t) _
              refine zx.adv 3 (f' := (94, [(0, .ref 69), (1, .int (nI Mn)), (2, .int 1), (3, .int (nI 1))], [.retAddr 33, .ref 69])) (h' := zH u8 w t) rfl ?_
              refine zx.cl (v := some (.int 0)) (h' := zH u8 w t) rfl (zm_dangers_x (u := u8) 33 y8.1) ?_
              show zx zk_mt zk_ex Ls xs zm_305 (97, [(0, .ref 69), (1, .int (nI Mn)), (2, .int 1), (3, .int (nI 1))], [.int 0]) (zH u8 w t) _
              refine zx.adv 3 (f' := (103, [(0, .ref 69), (1, .int (nI Mn)), (2, .int 1), (3, .int (nI 1)), (4, .int 0)], [.int (u8 68 13)])) (h' := zH u8 w t) rfl ?_
              rw [show (u8 68 13) = 1 from y8.1]
              refine zx.br (f1 := (107, [(0, .ref 69), (1, .int (nI Mn)), (2, .int 1), (3, .int (nI 1)), (4, .int 0)], [])) (f2 := (106, [(0, .ref 69), (1, .int (nI Mn)), (2, .int 1), (3, .int (nI 1)), (4, .int 0)], [])) rfl (fun c15 => absurd (of_decide_eq_true c15) (by decide)) (fun c15 => ?_)
              exact zx.rt rfl rfl ⟨u8, rfl, (((zMk.refl.steph g1).step g7).step g8), by rw [show zp_makerL tn ts tp tv k D Mn Gn Un l S = .inr (f8, p8) by simp only [zp_makerL, zp_kind, zbd, hz1, if_neg hz2, if_pos hz6, hz8a]]; exact y8⟩
            · obtain ⟨u8, q8, g8, r8⟩ := zm_after (w := w) (t := t) (u := u7) hM (zw_lasts (Ls := Ls) (xs := xs)) (lo := 1) (hi := 30) (by decide) (by decide) s7
              rw [hz8c] at q8 r8
              have y8 : zMx f8 p8 u8 := r8
              refine zx.cl (v := some (.int (nI 1))) (h' := zH u8 w t) rfl q8 ?_
              show zx zk_mt zk_ex Ls xs zm_305 (90, [(0, .ref 69), (1, .int (nI Mn)), (2, .int 1)], [.int (nI 1)]) (zH u8 w t) _
              refine zx.adv 3 (f' := (94, [(0, .ref 69), (1, .int (nI Mn)), (2, .int 1), (3, .int (nI 1))], [.retAddr 33, .ref 69])) (h' := zH u8 w t) rfl ?_
              refine zx.cl (v := some (.int 0)) (h' := zH u8 w t) rfl (zm_dangers_x (u := u8) 33 y8.1) ?_
              show zx zk_mt zk_ex Ls xs zm_305 (97, [(0, .ref 69), (1, .int (nI Mn)), (2, .int 1), (3, .int (nI 1))], [.int 0]) (zH u8 w t) _
              refine zx.adv 3 (f' := (103, [(0, .ref 69), (1, .int (nI Mn)), (2, .int 1), (3, .int (nI 1)), (4, .int 0)], [.int (u8 68 13)])) (h' := zH u8 w t) rfl ?_
              rw [show (u8 68 13) = 1 from y8.1]
              refine zx.br (f1 := (107, [(0, .ref 69), (1, .int (nI Mn)), (2, .int 1), (3, .int (nI 1)), (4, .int 0)], [])) (f2 := (106, [(0, .ref 69), (1, .int (nI Mn)), (2, .int 1), (3, .int (nI 1)), (4, .int 0)], [])) rfl (fun c16 => absurd (of_decide_eq_true c16) (by decide)) (fun c16 => ?_)
              exact zx.rt rfl rfl ⟨u8, rfl, (((zMk.refl.steph g1).step g7).step g8), by rw [show zp_makerL tn ts tp tv k D Mn Gn Un l S = .inr (f8, p8) by simp only [zp_makerL, zp_kind, zbd, hz1, if_neg hz2, if_pos hz6, hz8a, hz8b]]; exact y8⟩
        · refine zx.cl (v := some (.int 0)) (h' := zH u1 w t) rfl (by have ee := zm_isWord (w := w) (t := t) (u := u1) (zw_hasty (Ls := Ls) (xs := xs)) s1; rw [if_neg hz6] at ee; exact ee) ?_
          show zx zk_mt zk_ex Ls xs zm_305 (42, [(0, .ref 69), (1, .int (nI Mn))], [.int 0]) (zH u1 w t) _
          refine zx.br (f1 := (49, [(0, .ref 69), (1, .int (nI Mn))], [])) (f2 := (45, [(0, .ref 69), (1, .int (nI Mn))], [])) rfl (fun c17 => ?_) (fun c17 => absurd (by decide) (of_decide_eq_false c17))
          refine zx.adv 2 (f' := (52, [(0, .ref 69), (1, .int (nI Mn))], [.retAddr 31, .ref 69])) (h' := zH u1 w t) rfl ?_
          by_cases hz10 : ts k1 = 2 ∧ tv k1 = 8438297
          · refine zx.cl (v := some (.int 1)) (h' := zH u1 w t) rfl (by have ee := zm_isWord (w := w) (t := t) (u := u1) (zw_happy (Ls := Ls) (xs := xs)) s1; rw [if_pos hz10] at ee; exact ee) ?_
            show zx zk_mt zk_ex Ls xs zm_305 (55, [(0, .ref 69), (1, .int (nI Mn))], [.int 1]) (zH u1 w t) _
            refine zx.br (f1 := (62, [(0, .ref 69), (1, .int (nI Mn))], [])) (f2 := (58, [(0, .ref 69), (1, .int (nI Mn))], [])) rfl (fun c18 => absurd (of_decide_eq_true c18) (by decide)) (fun c18 => ?_)
            refine zx.adv 4 (f' := (65, [(0, .ref 69), (1, .int (nI Mn)), (2, .int 2)], [.int 2])) (h' := zH u1 w t) rfl ?_
            refine zx.br (f1 := (77, [(0, .ref 69), (1, .int (nI Mn)), (2, .int 2)], [])) (f2 := (68, [(0, .ref 69), (1, .int (nI Mn)), (2, .int 2)], [])) rfl (fun c19 => ?_) (fun c19 => absurd (by decide) (of_decide_eq_false c19))
            refine zx.adv 1 (f' := (78, [(0, .ref 69), (1, .int (nI Mn)), (2, .int 2)], [.ref 69])) (h' := zH u1 w t) rfl ?_
            skip
            · obtain ⟨u11, q11, g11, s11⟩ := zm_pass (w := w) (t := t) (u := u1) hM s1
              refine zx.cl (v := none) (h' := zH u11 w t) rfl q11 ?_
              show zx zk_mt zk_ex Ls xs zm_305 (81, [(0, .ref 69), (1, .int (nI Mn)), (2, .int 2)], []) (zH u11 w t) _
              refine zx.adv 4 (f' := (87, [(0, .ref 69), (1, .int (nI Mn)), (2, .int 2)], [.int 30, .int 1, .retAddr 32, .ref 69])) (h' := zH u11 w t) rfl ?_
              rcases zp_aft_cases tn ts tp tv 12635795 1 30 (tn k1) with ⟨k12a, k12, x12, hz12a, hz12b, hz12c⟩ | ⟨f12, p12, hz12a, hz12c⟩ | ⟨k12a, f12, p12, hz12a, hz12b, hz12c⟩
              · obtain ⟨u12, q12, g12, r12⟩ := zm_after (w := w) (t := t) (u := u11) hM (zw_lasts (Ls := Ls) (xs := xs)) (lo := 1) (hi := 30) (by decide) (by decide) s11
                rw [hz12c] at q12 r12
                have s12 : zMs tn ts tp tv E B k12 u12 := r12
                have hx12 := zp_num_in hz12b
                refine zx.cl (v := some (.int (nI x12))) (h' := zH u12 w t) rfl q12 ?_
                show zx zk_mt zk_ex Ls xs zm_305 (90, [(0, .ref 69), (1, .int (nI Mn)), (2, .int 2)], [.int (nI x12)]) (zH u12 w t) _
                refine zx.adv 3 (f' := (94, [(0, .ref 69), (1, .int (nI Mn)), (2, .int 2), (3, .int (nI x12))], [.retAddr 33, .ref 69])) (h' := zH u12 w t) rfl ?_
                rcases zp_dgs_cases tn ts tp tv 679786867 S1 k12 with ⟨k13a, k13, b13, hz13a, hz13b, hz13c⟩ | ⟨f13, p13, hz13a, hz13c⟩ | ⟨k13a, f13, p13, hz13a, hz13b, hz13c⟩
                · obtain ⟨T13, hT13, hb13⟩ := zp_dng_lt hD8 hS8 hT hM.1 9 0 _ _ _ (zp_kw_E hM.1 s12.1.1 hz13a) (Nat.two_pow_pos D) hz13b
                  subst hb13
                  obtain ⟨u13, rv13, q13, g13, r13⟩ := zm_dangers (w := w) (t := t) (u := u12) hM (zw_thinks (Ls := Ls) (xs := xs)) s12 (show zRN S1 (u12 72) by rw [g12.1 72 (by decide) (by decide)]; exact (show zRN S1 (u11 72) by rw [g11.1 72 (by decide) (by decide)]; exact n1))
                  rw [hz13c] at r13
                  obtain ⟨rb13, s13⟩ : rv13 = nI T13 ∧ zMs tn ts tp tv E B k13 u13 := r13
                  rw [rb13] at q13
                  refine zx.cl (v := some (.int (nI T13))) (h' := zH u13 w t) rfl q13 ?_
                  show zx zk_mt zk_ex Ls xs zm_305 (97, [(0, .ref 69), (1, .int (nI Mn)), (2, .int 2), (3, .int (nI x12))], [.int (nI T13)]) (zH u13 w t) _
                  refine zx.adv 3 (f' := (103, [(0, .ref 69), (1, .int (nI Mn)), (2, .int 2), (3, .int (nI x12)), (4, .int (nI T13))], [.int (u13 68 13)])) (h' := zH u13 w t) rfl ?_
                  rw [show (u13 68 13) = 0 from s13.2.2]
                  refine zx.br (f1 := (107, [(0, .ref 69), (1, .int (nI Mn)), (2, .int 2), (3, .int (nI x12)), (4, .int (nI T13))], [])) (f2 := (106, [(0, .ref 69), (1, .int (nI Mn)), (2, .int 2), (3, .int (nI x12)), (4, .int (nI T13))], [])) rfl (fun c20 => ?_) (fun c20 => absurd (by decide) (of_decide_eq_false c20))
                  refine zx.adv 6 (f' := (116, [(0, .ref 69), (1, .int (nI Mn)), (2, .int 2), (3, .int (nI x12)), (4, .int (nI T13))], [.int (2 * (nI Mn)), .int 23, .ref 73])) (h' := zH u13 w t) rfl ?_
                  rw [show 2 * (nI Mn) = nI (2 * Mn) from pk_mul 2 Mn]
                  refine zx.adv 1 (f' := (117, [(0, .ref 69), (1, .int (nI Mn)), (2, .int 2), (3, .int (nI x12)), (4, .int (nI T13))], [.int (23 + (nI (2 * Mn))), .ref 73])) (h' := zH u13 w t) rfl ?_
                  rw [show 23 + (nI (2 * Mn)) = nI (23 + (2 * Mn)) from nI_add 23 (2 * Mn)]
                  refine zx.adv 1 (f' := (118, [(0, .ref 69), (1, .int (nI Mn)), (2, .int 2), (3, .int (nI x12)), (4, .int (nI T13))], [.int 2, .int (nI (23 + (2 * Mn))), .ref 73])) (h' := zH u13 w t) rfl ?_
                  refine zx.ob (f' := (119, [(0, .ref 69), (1, .int (nI Mn)), (2, .int 2), (3, .int (nI x12)), (4, .int (nI T13))], [])) (h' := zH (zb u13 72 (upd (u13 72) (nI (23 + (2 * Mn))).toNatClampNeg 2)) w t) rfl (by first | exact zk_inN (by omega) (by decide) | decide) ?_
                  rw [nI_clamp (show (23 + (2 * Mn)) < 2 ^ 31 by omega)]
                  refine zx.adv 6 (f' := (128, [(0, .ref 69), (1, .int (nI Mn)), (2, .int 2), (3, .int (nI x12)), (4, .int (nI T13))], [.int (2 * (nI Mn)), .int 23, .ref 73])) (h' := zH (zb u13 72 (upd (u13 72) (23 + (2 * Mn)) 2)) w t) rfl ?_
                  rw [show 2 * (nI Mn) = nI (2 * Mn) from pk_mul 2 Mn]
                  refine zx.adv 1 (f' := (129, [(0, .ref 69), (1, .int (nI Mn)), (2, .int 2), (3, .int (nI x12)), (4, .int (nI T13))], [.int (23 + (nI (2 * Mn))), .ref 73])) (h' := zH (zb u13 72 (upd (u13 72) (23 + (2 * Mn)) 2)) w t) rfl ?_
                  rw [show 23 + (nI (2 * Mn)) = nI (23 + (2 * Mn)) from nI_add 23 (2 * Mn)]
                  refine zx.adv 2 (f' := (131, [(0, .ref 69), (1, .int (nI Mn)), (2, .int 2), (3, .int (nI x12)), (4, .int (nI T13))], [.int ((nI (23 + (2 * Mn))) + 1), .ref 73])) (h' := zH (zb u13 72 (upd (u13 72) (23 + (2 * Mn)) 2)) w t) rfl ?_
                  rw [show (nI (23 + (2 * Mn))) + 1 = nI ((23 + (2 * Mn)) + 1) from nI_add (23 + (2 * Mn)) 1]
                  refine zx.adv 1 (f' := (132, [(0, .ref 69), (1, .int (nI Mn)), (2, .int 2), (3, .int (nI x12)), (4, .int (nI T13))], [.int (nI x12), .int (nI ((23 + (2 * Mn)) + 1)), .ref 73])) (h' := zH (zb u13 72 (upd (u13 72) (23 + (2 * Mn)) 2)) w t) rfl ?_
                  refine zx.ob (f' := (133, [(0, .ref 69), (1, .int (nI Mn)), (2, .int 2), (3, .int (nI x12)), (4, .int (nI T13))], [])) (h' := zH (zb u13 72 (upd (upd (u13 72) (23 + (2 * Mn)) 2) (nI ((23 + (2 * Mn)) + 1)).toNatClampNeg (nI x12))) w t) rfl (by first | exact zk_inN (by omega) (by decide) | decide) ?_
                  rw [nI_clamp (show ((23 + (2 * Mn)) + 1) < 2 ^ 31 by omega)]
                  refine zx.adv 4 (f' := (139, [(0, .ref 69), (1, .int (nI Mn)), (2, .int 2), (3, .int (nI x12)), (4, .int (nI T13))], [.int (nI x12), .int (nI Mn), .ref 75])) (h' := zH (zb u13 72 (upd (upd (u13 72) (23 + (2 * Mn)) 2) ((23 + (2 * Mn)) + 1) (nI x12))) w t) rfl ?_
                  refine zx.ob (f' := (140, [(0, .ref 69), (1, .int (nI Mn)), (2, .int 2), (3, .int (nI x12)), (4, .int (nI T13))], [])) (h' := zH (zb (zb u13 72 (upd (upd (u13 72) (23 + (2 * Mn)) 2) ((23 + (2 * Mn)) + 1) (nI x12))) 74 (upd (u13 74) (nI Mn).toNatClampNeg (nI x12))) w t) rfl (by first | exact zk_inN (by omega) (by decide) | decide) ?_
                  rw [nI_clamp (show Mn < 2 ^ 31 by omega)]
                  refine zx.adv 5 (f' := (147, [(0, .ref 69), (1, .int (nI Mn)), (2, .int 2), (3, .int (nI x12)), (4, .int (nI T13))], [.int (5 + (nI Mn)), .ref 75])) (h' := zH (zb (zb u13 72 (upd (upd (u13 72) (23 + (2 * Mn)) 2) ((23 + (2 * Mn)) + 1) (nI x12))) 74 (upd (u13 74) Mn (nI x12))) w t) rfl ?_
                  rw [show 5 + (nI Mn) = nI (5 + Mn) from nI_add 5 Mn]
                  refine zx.adv 1 (f' := (149, [(0, .ref 69), (1, .int (nI Mn)), (2, .int 2), (3, .int (nI x12)), (4, .int (nI T13))], [.int (nI T13), .int (nI (5 + Mn)), .ref 75])) (h' := zH (zb (zb u13 72 (upd (upd (u13 72) (23 + (2 * Mn)) 2) ((23 + (2 * Mn)) + 1) (nI x12))) 74 (upd (u13 74) Mn (nI x12))) w t) rfl ?_
                  refine zx.ob (f' := (150, [(0, .ref 69), (1, .int (nI Mn)), (2, .int 2), (3, .int (nI x12)), (4, .int (nI T13))], [])) (h' := zH (zb (zb u13 72 (upd (upd (u13 72) (23 + (2 * Mn)) 2) ((23 + (2 * Mn)) + 1) (nI x12))) 74 (upd (upd (u13 74) Mn (nI x12)) (nI (5 + Mn)).toNatClampNeg (nI T13))) w t) rfl (by first | exact zk_inN (by omega) (by decide) | decide) ?_
                  rw [nI_clamp (show (5 + Mn) < 2 ^ 31 by omega)]
                  refine zx.adv 4 (f' := (156, [(0, .ref 69), (1, .int (nI Mn)), (2, .int 2), (3, .int (nI x12)), (4, .int (nI T13))], [.int 2, .ref 73, .int 2, .ref 73])) (h' := zH (zb (zb u13 72 (upd (upd (u13 72) (23 + (2 * Mn)) 2) ((23 + (2 * Mn)) + 1) (nI x12))) 74 (upd (upd (u13 74) Mn (nI x12)) (5 + Mn) (nI T13))) w t) rfl ?_
                  refine zx.ob (f' := (157, [(0, .ref 69), (1, .int (nI Mn)), (2, .int 2), (3, .int (nI x12)), (4, .int (nI T13))], [.int ((upd (upd (u13 72) (23 + (2 * Mn)) 2) ((23 + (2 * Mn)) + 1) (nI x12)) (2 : Int32).toNatClampNeg), .int 2, .ref 73])) (h' := zH (zb (zb u13 72 (upd (upd (u13 72) (23 + (2 * Mn)) 2) ((23 + (2 * Mn)) + 1) (nI x12))) 74 (upd (upd (u13 74) Mn (nI x12)) (5 + Mn) (nI T13))) w t) rfl rfl ?_
                  show zx zk_mt zk_ex Ls xs zm_305 (157, [(0, .ref 69), (1, .int (nI Mn)), (2, .int 2), (3, .int (nI x12)), (4, .int (nI T13))], [.int ((upd (upd (u13 72) (23 + (2 * Mn)) 2) ((23 + (2 * Mn)) + 1) (nI x12)) 2), .int 2, .ref 73]) (zH (zb (zb u13 72 (upd (upd (u13 72) (23 + (2 * Mn)) 2) ((23 + (2 * Mn)) + 1) (nI x12))) 74 (upd (upd (u13 74) Mn (nI x12)) (5 + Mn) (nI T13))) w t) _
                  rw [show (upd (upd (u13 72) (23 + (2 * Mn)) 2) ((23 + (2 * Mn)) + 1) (nI x12)) 2 = nI Mn from (((zE.g (g13.1 72 (by decide) (by decide)) (zE.g (g12.1 72 (by decide) (by decide)) (zE.g (g11.1 72 (by decide) (by decide)) e1))).u.u) 2 (by decide)).trans ((pk_un (show 2 ≠ ((23 + (2 * Mn)) + 1) by omega)).trans ((pk_un (show 2 ≠ (23 + (2 * Mn)) by omega)).trans h722))]
                  refine zx.adv 2 (f' := (159, [(0, .ref 69), (1, .int (nI Mn)), (2, .int 2), (3, .int (nI x12)), (4, .int (nI T13))], [.int ((nI Mn) + 1), .int 2, .ref 73])) (h' := zH (zb (zb u13 72 (upd (upd (u13 72) (23 + (2 * Mn)) 2) ((23 + (2 * Mn)) + 1) (nI x12))) 74 (upd (upd (u13 74) Mn (nI x12)) (5 + Mn) (nI T13))) w t) rfl ?_
                  rw [show (nI Mn) + 1 = nI (Mn + 1) from nI_add Mn 1]
                  refine zx.ob (f' := (160, [(0, .ref 69), (1, .int (nI Mn)), (2, .int 2), (3, .int (nI x12)), (4, .int (nI T13))], [])) (h' := zH (zb (zb u13 72 (upd (upd (upd (u13 72) (23 + (2 * Mn)) 2) ((23 + (2 * Mn)) + 1) (nI x12)) (2 : Int32).toNatClampNeg (nI (Mn + 1)))) 74 (upd (upd (u13 74) Mn (nI x12)) (5 + Mn) (nI T13))) w t) rfl rfl ?_
                  show zx zk_mt zk_ex Ls xs zm_305 (160, [(0, .ref 69), (1, .int (nI Mn)), (2, .int 2), (3, .int (nI x12)), (4, .int (nI T13))], []) (zH (zb (zb u13 72 (upd (upd (upd (u13 72) (23 + (2 * Mn)) 2) ((23 + (2 * Mn)) + 1) (nI x12)) 2 (nI (Mn + 1)))) 74 (upd (upd (u13 74) Mn (nI x12)) (5 + Mn) (nI T13))) w t) _
                  exact zx.rt rfl rfl ⟨(zb (zb u13 72 (upd (upd (upd (u13 72) (23 + (2 * Mn)) 2) ((23 + (2 * Mn)) + 1) (nI x12)) 2 (nI (Mn + 1)))) 74 (upd (upd (u13 74) Mn (nI x12)) (5 + Mn) (nI T13))), rfl, ((((zMk.refl.steph g1).step g11).step g12).step g13).b72.b74, by rw [show zp_makerL tn ts tp tv k D Mn Gn Un l S = .inl (k13, (D, Mn + 1, Gn, Un, 1), (zb (zb (zb (zb l 4 (upd (l 4) 4 (nI (Mn + 1)))) 7 (upd (l 7) Mn (nI 2))) 8 (upd (l 8) Mn (nI x12))) 9 (upd (l 9) Mn (nI T13))), S1) by simp only [zp_makerL, zp_kind, zbd, hz1, if_neg hz2, if_neg hz6, if_pos hz10, hz12a, hz12b, hz13a, hz13b]]; exact ⟨s13, (zRN.u (by omega) (zRN.u (by omega) (zRN.u (by omega) (show zRN S1 (u13 72) by rw [g13.1 72 (by decide) (by decide)]; exact (show zRN S1 (u12 72) by rw [g12.1 72 (by decide) (by decide)]; exact (show zRN S1 (u11 72) by rw [g11.1 72 (by decide) (by decide)]; exact n1)))))), (zL_maker (x := 2) hcap (by decide) hx12 hT13 hL rfl (fun i h1 n0 n1 n2 => ((show zE (upd (upd (upd (u13 72) (23 + (2 * Mn)) 2) ((23 + (2 * Mn)) + 1) (nI x12)) 2 (nI (Mn + 1))) (upd (upd (upd (u 72) (23 + (2 * Mn)) 2) ((23 + (2 * Mn)) + 1) (nI x12)) 2 (nI (Mn + 1))) from (zE.g (g13.1 72 (by decide) (by decide)) (zE.g (g12.1 72 (by decide) (by decide)) (zE.g (g11.1 72 (by decide) (by decide)) e1))).u.u.u) i h1).trans ((pk_un n0).trans ((pk_un n2).trans (pk_un n1)))) (((show zE (upd (upd (upd (u13 72) (23 + (2 * Mn)) 2) ((23 + (2 * Mn)) + 1) (nI x12)) 2 (nI (Mn + 1))) (upd (upd (upd (u 72) (23 + (2 * Mn)) 2) ((23 + (2 * Mn)) + 1) (nI x12)) 2 (nI (Mn + 1))) from (zE.g (g13.1 72 (by decide) (by decide)) (zE.g (g12.1 72 (by decide) (by decide)) (zE.g (g11.1 72 (by decide) (by decide)) e1))).u.u.u) (2) (by omega)).trans pk_us) (((show zE (upd (upd (upd (u13 72) (23 + (2 * Mn)) 2) ((23 + (2 * Mn)) + 1) (nI x12)) 2 (nI (Mn + 1))) (upd (upd (upd (u 72) (23 + (2 * Mn)) 2) ((23 + (2 * Mn)) + 1) (nI x12)) 2 (nI (Mn + 1))) from (zE.g (g13.1 72 (by decide) (by decide)) (zE.g (g12.1 72 (by decide) (by decide)) (zE.g (g11.1 72 (by decide) (by decide)) e1))).u.u.u) (23 + 2 * Mn) (by omega)).trans ((pk_un (show 23 + 2 * Mn ≠ 2 by omega)).trans ((pk_un (show 23 + 2 * Mn ≠ ((23 + (2 * Mn)) + 1) by omega)).trans pk_us))) (((show zE (upd (upd (upd (u13 72) (23 + (2 * Mn)) 2) ((23 + (2 * Mn)) + 1) (nI x12)) 2 (nI (Mn + 1))) (upd (upd (upd (u 72) (23 + (2 * Mn)) 2) ((23 + (2 * Mn)) + 1) (nI x12)) 2 (nI (Mn + 1))) from (zE.g (g13.1 72 (by decide) (by decide)) (zE.g (g12.1 72 (by decide) (by decide)) (zE.g (g11.1 72 (by decide) (by decide)) e1))).u.u.u) (23 + 2 * Mn + 1) (by omega)).trans ((pk_un (show 23 + 2 * Mn + 1 ≠ 2 by omega)).trans pk_us)) (fun i h1 n0 n1 => ((pk_un n1).trans ((pk_un n0).trans (congrFun ((g13.1 74 (by decide) (by decide)).trans ((g12.1 74 (by decide) (by decide)).trans ((g11.1 74 (by decide) (by decide)).trans ((g1.1 74 (by decide) (by decide) (by decide)).trans rfl)))) i)))) ((pk_un (show Mn ≠ (5 + Mn) by omega)).trans pk_us) (pk_us))⟩⟩
                · obtain ⟨u13, rv13, q13, g13, r13⟩ := zm_dangers (w := w) (t := t) (u := u12) hM (zw_thinks (Ls := Ls) (xs := xs)) s12 (show zRN S1 (u12 72) by rw [g12.1 72 (by decide) (by decide)]; exact (show zRN S1 (u11 72) by rw [g11.1 72 (by decide) (by decide)]; exact n1))
                  rw [hz13c] at r13
                  have y13 : zMx f13 p13 u13 := r13
                  refine zx.cl (v := some (.int rv13)) (h' := zH u13 w t) rfl q13 ?_
                  show zx zk_mt zk_ex Ls xs zm_305 (97, [(0, .ref 69), (1, .int (nI Mn)), (2, .int 2), (3, .int (nI x12))], [.int rv13]) (zH u13 w t) _
                  refine zx.adv 3 (f' := (103, [(0, .ref 69), (1, .int (nI Mn)), (2, .int 2), (3, .int (nI x12)), (4, .int rv13)], [.int (u13 68 13)])) (h' := zH u13 w t) rfl ?_
                  rw [show (u13 68 13) = 1 from y13.1]
                  refine zx.br (f1 := (107, [(0, .ref 69), (1, .int (nI Mn)), (2, .int 2), (3, .int (nI x12)), (4, .int rv13)], [])) (f2 := (106, [(0, .ref 69), (1, .int (nI Mn)), (2, .int 2), (3, .int (nI x12)), (4, .int rv13)], [])) rfl (fun c21 => absurd (of_decide_eq_true c21) (by decide)) (fun c21 => ?_)
                  exact zx.rt rfl rfl ⟨u13, rfl, ((((zMk.refl.steph g1).step g11).step g12).step g13), by rw [show zp_makerL tn ts tp tv k D Mn Gn Un l S = .inr (f13, p13) by simp only [zp_makerL, zp_kind, zbd, hz1, if_neg hz2, if_neg hz6, if_pos hz10, hz12a, hz12b, hz13a]]; exact y13⟩
                · obtain ⟨u13, rv13, q13, g13, r13⟩ := zm_dangers (w := w) (t := t) (u := u12) hM (zw_thinks (Ls := Ls) (xs := xs)) s12 (show zRN S1 (u12 72) by rw [g12.1 72 (by decide) (by decide)]; exact (show zRN S1 (u11 72) by rw [g11.1 72 (by decide) (by decide)]; exact n1))
                  rw [hz13c] at r13
                  have y13 : zMx f13 p13 u13 := r13
                  refine zx.cl (v := some (.int rv13)) (h' := zH u13 w t) rfl q13 ?_
                  show zx zk_mt zk_ex Ls xs zm_305 (97, [(0, .ref 69), (1, .int (nI Mn)), (2, .int 2), (3, .int (nI x12))], [.int rv13]) (zH u13 w t) _
                  refine zx.adv 3 (f' := (103, [(0, .ref 69), (1, .int (nI Mn)), (2, .int 2), (3, .int (nI x12)), (4, .int rv13)], [.int (u13 68 13)])) (h' := zH u13 w t) rfl ?_
                  rw [show (u13 68 13) = 1 from y13.1]
                  refine zx.br (f1 := (107, [(0, .ref 69), (1, .int (nI Mn)), (2, .int 2), (3, .int (nI x12)), (4, .int rv13)], [])) (f2 := (106, [(0, .ref 69), (1, .int (nI Mn)), (2, .int 2), (3, .int (nI x12)), (4, .int rv13)], [])) rfl (fun c22 => absurd (of_decide_eq_true c22) (by decide)) (fun c22 => ?_)
                  exact zx.rt rfl rfl ⟨u13, rfl, ((((zMk.refl.steph g1).step g11).step g12).step g13), by rw [show zp_makerL tn ts tp tv k D Mn Gn Un l S = .inr (f13, p13) by simp only [zp_makerL, zp_kind, zbd, hz1, if_neg hz2, if_neg hz6, if_pos hz10, hz12a, hz12b, hz13a, hz13b]]; exact y13⟩
              · obtain ⟨u12, q12, g12, r12⟩ := zm_after (w := w) (t := t) (u := u11) hM (zw_lasts (Ls := Ls) (xs := xs)) (lo := 1) (hi := 30) (by decide) (by decide) s11
                rw [hz12c] at q12 r12
                have y12 : zMx f12 p12 u12 := r12
                refine zx.cl (v := some (.int (nI 1))) (h' := zH u12 w t) rfl q12 ?_
                show zx zk_mt zk_ex Ls xs zm_305 (90, [(0, .ref 69), (1, .int (nI Mn)), (2, .int 2)], [.int (nI 1)]) (zH u12 w t) _
                refine zx.adv 3 (f' := (94, [(0, .ref 69), (1, .int (nI Mn)), (2, .int 2), (3, .int (nI 1))], [.retAddr 33, .ref 69])) (h' := zH u12 w t) rfl ?_
                refine zx.cl (v := some (.int 0)) (h' := zH u12 w t) rfl (zm_dangers_x (u := u12) 33 y12.1) ?_
                show zx zk_mt zk_ex Ls xs zm_305 (97, [(0, .ref 69), (1, .int (nI Mn)), (2, .int 2), (3, .int (nI 1))], [.int 0]) (zH u12 w t) _
                refine zx.adv 3 (f' := (103, [(0, .ref 69), (1, .int (nI Mn)), (2, .int 2), (3, .int (nI 1)), (4, .int 0)], [.int (u12 68 13)])) (h' := zH u12 w t) rfl ?_
                rw [show (u12 68 13) = 1 from y12.1]
                refine zx.br (f1 := (107, [(0, .ref 69), (1, .int (nI Mn)), (2, .int 2), (3, .int (nI 1)), (4, .int 0)], [])) (f2 := (106, [(0, .ref 69), (1, .int (nI Mn)), (2, .int 2), (3, .int (nI 1)), (4, .int 0)], [])) rfl (fun c23 => absurd (of_decide_eq_true c23) (by decide)) (fun c23 => ?_)
                exact zx.rt rfl rfl ⟨u12, rfl, (((zMk.refl.steph g1).step g11).step g12), by rw [show zp_makerL tn ts tp tv k D Mn Gn Un l S = .inr (f12, p12) by simp only [zp_makerL, zp_kind, zbd, hz1, if_neg hz2, if_neg hz6, if_pos hz10, hz12a]]; exact y12⟩
              · obtain ⟨u12, q12, g12, r12⟩ := zm_after (w := w) (t := t) (u := u11) hM (zw_lasts (Ls := Ls) (xs := xs)) (lo := 1) (hi := 30) (by decide) (by decide) s11
                rw [hz12c] at q12 r12
                have y12 : zMx f12 p12 u12 := r12
                refine zx.cl (v := some (.int (nI 1))) (h' := zH u12 w t) rfl q12 ?_
                show zx zk_mt zk_ex Ls xs zm_305 (90, [(0, .ref 69), (1, .int (nI Mn)), (2, .int 2)], [.int (nI 1)]) (zH u12 w t) _
                refine zx.adv 3 (f' := (94, [(0, .ref 69), (1, .int (nI Mn)), (2, .int 2), (3, .int (nI 1))], [.retAddr 33, .ref 69])) (h' := zH u12 w t) rfl ?_
                refine zx.cl (v := some (.int 0)) (h' := zH u12 w t) rfl (zm_dangers_x (u := u12) 33 y12.1) ?_
                show zx zk_mt zk_ex Ls xs zm_305 (97, [(0, .ref 69), (1, .int (nI Mn)), (2, .int 2), (3, .int (nI 1))], [.int 0]) (zH u12 w t) _
                refine zx.adv 3 (f' := (103, [(0, .ref 69), (1, .int (nI Mn)), (2, .int 2), (3, .int (nI 1)), (4, .int 0)], [.int (u12 68 13)])) (h' := zH u12 w t) rfl ?_
                rw [show (u12 68 13) = 1 from y12.1]
                refine zx.br (f1 := (107, [(0, .ref 69), (1, .int (nI Mn)), (2, .int 2), (3, .int (nI 1)), (4, .int 0)], [])) (f2 := (106, [(0, .ref 69), (1, .int (nI Mn)), (2, .int 2), (3, .int (nI 1)), (4, .int 0)], [])) rfl (fun c24 => absurd (of_decide_eq_true c24) (by decide)) (fun c24 => ?_)
                exact zx.rt rfl rfl ⟨u12, rfl, (((zMk.refl.steph g1).step g11).step g12), by rw [show zp_makerL tn ts tp tv k D Mn Gn Un l S = .inr (f12, p12) by simp only [zp_makerL, zp_kind, zbd, hz1, if_neg hz2, if_neg hz6, if_pos hz10, hz12a, hz12b]]; exact y12⟩
          · refine zx.cl (v := some (.int 0)) (h' := zH u1 w t) rfl (by have ee := zm_isWord (w := w) (t := t) (u := u1) (zw_happy (Ls := Ls) (xs := xs)) s1; rw [if_neg hz10] at ee; exact ee) ?_
            show zx zk_mt zk_ex Ls xs zm_305 (55, [(0, .ref 69), (1, .int (nI Mn))], [.int 0]) (zH u1 w t) _
            refine zx.br (f1 := (62, [(0, .ref 69), (1, .int (nI Mn))], [])) (f2 := (58, [(0, .ref 69), (1, .int (nI Mn))], [])) rfl (fun c25 => ?_) (fun c25 => absurd (by decide) (of_decide_eq_false c25))
            refine zx.adv 3 (f' := (65, [(0, .ref 69), (1, .int (nI Mn)), (2, .int (-1))], [.int (-1)])) (h' := zH u1 w t) rfl ?_
            refine zx.br (f1 := (77, [(0, .ref 69), (1, .int (nI Mn)), (2, .int (-1))], [])) (f2 := (68, [(0, .ref 69), (1, .int (nI Mn)), (2, .int (-1))], [])) rfl (fun c26 => absurd (of_decide_eq_true c26) (by decide)) (fun c26 => ?_)
            refine zx.adv 4 (f' := (74, [(0, .ref 69), (1, .int (nI Mn)), (2, .int (-1))], [.int (u1 68 4), .int 1, .ref 69])) (h' := zH u1 w t) rfl ?_
            refine zx.cl (v := none) (h' := zH (zb u1 68 (upd (upd (upd (u1 68) 9 1) 10 (u1 68 4)) 13 1)) w t) rfl (zs_mwrong_0 (v := u1) (w := w) s1.2.2 1 (u1 68 4)) ?_
            show zx zk_mt zk_ex Ls xs zm_305 (77, [(0, .ref 69), (1, .int (nI Mn)), (2, .int (-1))], []) (zH (zb u1 68 (upd (upd (upd (u1 68) 9 1) 10 (u1 68 4)) 13 1)) w t) _
            refine zx.adv 1 (f' := (78, [(0, .ref 69), (1, .int (nI Mn)), (2, .int (-1))], [.ref 69])) (h' := zH (zb u1 68 (upd (upd (upd (u1 68) 9 1) 10 (u1 68 4)) 13 1)) w t) rfl ?_
            refine zx.cl (v := none) (h' := zH (zb u1 68 (upd (upd (upd (u1 68) 9 1) 10 (u1 68 4)) 13 1)) w t) rfl (zm_pass_x (u := (zb u1 68 (upd (upd (upd (u1 68) 9 1) 10 (u1 68 4)) 13 1))) rfl) ?_
            show zx zk_mt zk_ex Ls xs zm_305 (81, [(0, .ref 69), (1, .int (nI Mn)), (2, .int (-1))], []) (zH (zb u1 68 (upd (upd (upd (u1 68) 9 1) 10 (u1 68 4)) 13 1)) w t) _
            refine zx.adv 4 (f' := (87, [(0, .ref 69), (1, .int (nI Mn)), (2, .int (-1))], [.int 30, .int 1, .retAddr 32, .ref 69])) (h' := zH (zb u1 68 (upd (upd (upd (u1 68) 9 1) 10 (u1 68 4)) 13 1)) w t) rfl ?_
            refine zx.cl (v := some (.int 1)) (h' := zH (zb u1 68 (upd (upd (upd (u1 68) 9 1) 10 (u1 68 4)) 13 1)) w t) rfl (zm_after_x (u := (zb u1 68 (upd (upd (upd (u1 68) 9 1) 10 (u1 68 4)) 13 1))) 32 1 30 rfl) ?_
            show zx zk_mt zk_ex Ls xs zm_305 (90, [(0, .ref 69), (1, .int (nI Mn)), (2, .int (-1))], [.int 1]) (zH (zb u1 68 (upd (upd (upd (u1 68) 9 1) 10 (u1 68 4)) 13 1)) w t) _
            refine zx.adv 3 (f' := (94, [(0, .ref 69), (1, .int (nI Mn)), (2, .int (-1)), (3, .int 1)], [.retAddr 33, .ref 69])) (h' := zH (zb u1 68 (upd (upd (upd (u1 68) 9 1) 10 (u1 68 4)) 13 1)) w t) rfl ?_
            refine zx.cl (v := some (.int 0)) (h' := zH (zb u1 68 (upd (upd (upd (u1 68) 9 1) 10 (u1 68 4)) 13 1)) w t) rfl (zm_dangers_x (u := (zb u1 68 (upd (upd (upd (u1 68) 9 1) 10 (u1 68 4)) 13 1))) 33 rfl) ?_
            show zx zk_mt zk_ex Ls xs zm_305 (97, [(0, .ref 69), (1, .int (nI Mn)), (2, .int (-1)), (3, .int 1)], [.int 0]) (zH (zb u1 68 (upd (upd (upd (u1 68) 9 1) 10 (u1 68 4)) 13 1)) w t) _
            refine zx.adv 3 (f' := (103, [(0, .ref 69), (1, .int (nI Mn)), (2, .int (-1)), (3, .int 1), (4, .int 0)], [.int 1])) (h' := zH (zb u1 68 (upd (upd (upd (u1 68) 9 1) 10 (u1 68 4)) 13 1)) w t) rfl ?_
            refine zx.br (f1 := (107, [(0, .ref 69), (1, .int (nI Mn)), (2, .int (-1)), (3, .int 1), (4, .int 0)], [])) (f2 := (106, [(0, .ref 69), (1, .int (nI Mn)), (2, .int (-1)), (3, .int 1), (4, .int 0)], [])) rfl (fun c27 => absurd (of_decide_eq_true c27) (by decide)) (fun c27 => ?_)
            exact zx.rt rfl rfl ⟨(zb u1 68 (upd (upd (upd (u1 68) 9 1) 10 (u1 68 4)) 13 1)), rfl, ((zMk.refl.steph g1).step zMg.wrong), by rw [show zp_makerL tn ts tp tv k D Mn Gn Un l S = .inr (1, (tp k1)) by simp only [zp_makerL, zp_kind, zbd, hz1, if_neg hz2, if_neg hz6, if_neg hz10]]; exact (zMx.wrong s1)⟩
    · obtain ⟨u1, q1, g1, r1⟩ := zm_newName (w := w) (t := t) (u := u) hM (s := (8 + Mn)) (by omega) hs hN
      rw [hz1] at r1
      have y1 : zMx f1 p1 u1 := r1
      refine zx.cl (v := none) (h' := zH u1 w t) rfl q1 ?_
      show zx zk_mt zk_ex Ls xs zm_305 (23, [(0, .ref 69), (1, .int (nI Mn))], []) (zH u1 w t) _
      refine zx.adv 2 (f' := (26, [(0, .ref 69), (1, .int (nI Mn))], [.retAddr 29, .ref 69])) (h' := zH u1 w t) rfl ?_
      refine zx.cl (v := some (.int 0)) (h' := zH u1 w t) rfl (zm_iw_x (u := u1) 29 y1.1) ?_
      show zx zk_mt zk_ex Ls xs zm_305 (29, [(0, .ref 69), (1, .int (nI Mn))], [.int 0]) (zH u1 w t) _
      refine zx.br (f1 := (36, [(0, .ref 69), (1, .int (nI Mn))], [])) (f2 := (32, [(0, .ref 69), (1, .int (nI Mn))], [])) rfl (fun c28 => ?_) (fun c28 => absurd (by decide) (of_decide_eq_false c28))
      refine zx.adv 2 (f' := (39, [(0, .ref 69), (1, .int (nI Mn))], [.retAddr 30, .ref 69])) (h' := zH u1 w t) rfl ?_
      refine zx.cl (v := some (.int 0)) (h' := zH u1 w t) rfl (zm_iw_x (u := u1) 30 y1.1) ?_
      show zx zk_mt zk_ex Ls xs zm_305 (42, [(0, .ref 69), (1, .int (nI Mn))], [.int 0]) (zH u1 w t) _
      refine zx.br (f1 := (49, [(0, .ref 69), (1, .int (nI Mn))], [])) (f2 := (45, [(0, .ref 69), (1, .int (nI Mn))], [])) rfl (fun c29 => ?_) (fun c29 => absurd (by decide) (of_decide_eq_false c29))
      refine zx.adv 2 (f' := (52, [(0, .ref 69), (1, .int (nI Mn))], [.retAddr 31, .ref 69])) (h' := zH u1 w t) rfl ?_
      refine zx.cl (v := some (.int 0)) (h' := zH u1 w t) rfl (zm_iw_x (u := u1) 31 y1.1) ?_
      show zx zk_mt zk_ex Ls xs zm_305 (55, [(0, .ref 69), (1, .int (nI Mn))], [.int 0]) (zH u1 w t) _
      refine zx.br (f1 := (62, [(0, .ref 69), (1, .int (nI Mn))], [])) (f2 := (58, [(0, .ref 69), (1, .int (nI Mn))], [])) rfl (fun c30 => ?_) (fun c30 => absurd (by decide) (of_decide_eq_false c30))
      refine zx.adv 3 (f' := (65, [(0, .ref 69), (1, .int (nI Mn)), (2, .int (-1))], [.int (-1)])) (h' := zH u1 w t) rfl ?_
      refine zx.br (f1 := (77, [(0, .ref 69), (1, .int (nI Mn)), (2, .int (-1))], [])) (f2 := (68, [(0, .ref 69), (1, .int (nI Mn)), (2, .int (-1))], [])) rfl (fun c31 => absurd (of_decide_eq_true c31) (by decide)) (fun c31 => ?_)
      refine zx.adv 4 (f' := (74, [(0, .ref 69), (1, .int (nI Mn)), (2, .int (-1))], [.int (u1 68 4), .int 1, .ref 69])) (h' := zH u1 w t) rfl ?_
      refine zx.cl (v := none) (h' := zH u1 w t) rfl (zs_mwrong_1 (v := u1) (w := w) y1.1 1 (u1 68 4)) ?_
      show zx zk_mt zk_ex Ls xs zm_305 (77, [(0, .ref 69), (1, .int (nI Mn)), (2, .int (-1))], []) (zH u1 w t) _
      refine zx.adv 1 (f' := (78, [(0, .ref 69), (1, .int (nI Mn)), (2, .int (-1))], [.ref 69])) (h' := zH u1 w t) rfl ?_
      refine zx.cl (v := none) (h' := zH u1 w t) rfl (zm_pass_x (u := u1) y1.1) ?_
      show zx zk_mt zk_ex Ls xs zm_305 (81, [(0, .ref 69), (1, .int (nI Mn)), (2, .int (-1))], []) (zH u1 w t) _
      refine zx.adv 4 (f' := (87, [(0, .ref 69), (1, .int (nI Mn)), (2, .int (-1))], [.int 30, .int 1, .retAddr 32, .ref 69])) (h' := zH u1 w t) rfl ?_
      refine zx.cl (v := some (.int 1)) (h' := zH u1 w t) rfl (zm_after_x (u := u1) 32 1 30 y1.1) ?_
      show zx zk_mt zk_ex Ls xs zm_305 (90, [(0, .ref 69), (1, .int (nI Mn)), (2, .int (-1))], [.int 1]) (zH u1 w t) _
      refine zx.adv 3 (f' := (94, [(0, .ref 69), (1, .int (nI Mn)), (2, .int (-1)), (3, .int 1)], [.retAddr 33, .ref 69])) (h' := zH u1 w t) rfl ?_
      refine zx.cl (v := some (.int 0)) (h' := zH u1 w t) rfl (zm_dangers_x (u := u1) 33 y1.1) ?_
      show zx zk_mt zk_ex Ls xs zm_305 (97, [(0, .ref 69), (1, .int (nI Mn)), (2, .int (-1)), (3, .int 1)], [.int 0]) (zH u1 w t) _
      refine zx.adv 3 (f' := (103, [(0, .ref 69), (1, .int (nI Mn)), (2, .int (-1)), (3, .int 1), (4, .int 0)], [.int (u1 68 13)])) (h' := zH u1 w t) rfl ?_
      rw [show (u1 68 13) = 1 from y1.1]
      refine zx.br (f1 := (107, [(0, .ref 69), (1, .int (nI Mn)), (2, .int (-1)), (3, .int 1), (4, .int 0)], [])) (f2 := (106, [(0, .ref 69), (1, .int (nI Mn)), (2, .int (-1)), (3, .int 1), (4, .int 0)], [])) rfl (fun c32 => absurd (of_decide_eq_true c32) (by decide)) (fun c32 => ?_)
      exact zx.rt rfl rfl ⟨u1, rfl, (zMk.refl.steph g1), by rw [show zp_makerL tn ts tp tv k D Mn Gn Un l S = .inr (f1, p1) by simp only [zp_makerL, zp_kind, zbd, hz1]]; exact y1⟩
  obtain ⟨q, h1, u', rfl, h2⟩ := main
  exact ⟨u', h1, h2⟩
theorem zm_goodLine (hM : zk_MA Ls xs tn ts tp tv E B) (hT : zt_ok tn ts tv E) {k D Mn Gn Un : Nat} {l : Nat → Nat → Int32} {S : Nat → Int64} (hs : zMs tn ts tp tv E B k u) (hN : zRN S (u 72)) (hS : zSr D Mn Gn S) (hL : zL D Mn Gn Un 1 l (u 72) (u 74)) (hcap : Gn < 4) : ∃ u', zk_Cr zk_mt zk_ex Ls xs 304 [.ref 69] (zH u w t) (none, zH u' w t) ∧ zML tn ts tp tv E B (zp_goodL tn ts tp tv k D Mn Gn Un l S) u u' := by
  have main : ∃ q, zk_Cr zk_mt zk_ex Ls xs 304 [.ref 69] (zH u w t) q ∧ ∃ u', q = (none, zH u' w t) ∧ zML tn ts tp tv E B (zp_goodL tn ts tp tv k D Mn Gn Un l S) u u' := by
    have hD8 : D ≤ 8 := hL.1.1.1
    have hM5' : Mn ≤ 5 := hL.1.1.2.1
    have hG4' : Gn ≤ 4 := hL.1.1.2.2.1
    have hU4' : Un ≤ 4 := hL.1.1.2.2.2
    have h721 : u 72 1 = nI D := hL.1.2.1.2.1
    have h722 : u 72 2 = nI Mn := hL.1.2.1.2.2.2.1
    have h723 : u 72 3 = nI Gn := hL.1.2.1.2.2.2.2.2.1
    have h724 : u 72 4 = nI Un := hL.1.2.1.2.2.2.2.2.2.2
    refine zx.of (K := zm_304) rfl rfl rfl ?_
    show zx zk_mt zk_ex Ls xs zm_304 (0, [(0, .ref 69)], []) (zH u w t) _
    refine zx.adv 2 (f' := (4, [(0, .ref 69)], [.int (u 68 13)])) (h' := zH u w t) rfl ?_
    rw [show (u 68 13) = 0 from hs.2.2]
    refine zx.br (f1 := (8, [(0, .ref 69)], [])) (f2 := (7, [(0, .ref 69)], [])) rfl (fun c1 => ?_) (fun c1 => absurd (by decide) (of_decide_eq_false c1))
    refine zx.adv 3 (f' := (13, [(0, .ref 69)], [.int 3, .ref 73])) (h' := zH u w t) rfl ?_
    refine zx.ob (f' := (14, [(0, .ref 69)], [.int (u 72 (3 : Int32).toNatClampNeg)])) (h' := zH u w t) rfl rfl ?_
    show zx zk_mt zk_ex Ls xs zm_304 (14, [(0, .ref 69)], [.int (u 72 3)]) (zH u w t) _
    rw [h723]
    refine zx.adv 5 (f' := (20, [(0, .ref 69), (1, .int (nI Gn))], [.int (13 + (nI Gn)), .ref 69])) (h' := zH u w t) rfl ?_
    rw [show 13 + (nI Gn) = nI (13 + Gn) from nI_add 13 Gn]
    rcases hz1 : zp_new tn ts tp tv (13 + Gn) S k with ⟨k1, S1⟩ | ⟨f1, p1⟩
    · obtain ⟨u1, q1, g1, r1⟩ := zm_newName (w := w) (t := t) (u := u) hM (s := (13 + Gn)) (by omega) hs hN
      rw [hz1] at r1
      obtain ⟨s1, n1, e1⟩ : zMs tn ts tp tv E B k1 u1 ∧ zRN S1 (u1 72) ∧ ∀ i, i < 53 → u1 72 i = u 72 i := r1
      have hS8 : ∀ s, s < 8 → S1 s ≠ 0 → s < D := zSr_new hS hz1 (by omega)
      refine zx.cl (v := none) (h' := zH u1 w t) rfl q1 ?_
      show zx zk_mt zk_ex Ls xs zm_304 (23, [(0, .ref 69), (1, .int (nI Gn))], []) (zH u1 w t) _
      refine zx.adv 4 (f' := (29, [(0, .ref 69), (1, .int (nI Gn))], [.int 99, .int 1, .retAddr 34, .ref 69])) (h' := zH u1 w t) rfl ?_
      rcases zp_aft_cases tn ts tp tv 24627848 1 99 k1 with ⟨k2a, k2, x2, hz2a, hz2b, hz2c⟩ | ⟨f2, p2, hz2a, hz2c⟩ | ⟨k2a, f2, p2, hz2a, hz2b, hz2c⟩
      · obtain ⟨u2, q2, g2, r2⟩ := zm_after (w := w) (t := t) (u := u1) hM (zw_worth (Ls := Ls) (xs := xs)) (lo := 1) (hi := 99) (by decide) (by decide) s1
        rw [hz2c] at q2 r2
        have s2 : zMs tn ts tp tv E B k2 u2 := r2
        have hx2 := zp_num_in hz2b
        refine zx.cl (v := some (.int (nI x2))) (h' := zH u2 w t) rfl q2 ?_
        show zx zk_mt zk_ex Ls xs zm_304 (32, [(0, .ref 69), (1, .int (nI Gn))], [.int (nI x2)]) (zH u2 w t) _
        refine zx.adv 3 (f' := (36, [(0, .ref 69), (1, .int (nI Gn)), (2, .int (nI x2))], [.retAddr 35, .ref 69])) (h' := zH u2 w t) rfl ?_
        rcases zp_dgs_cases tn ts tp tv 6456915 S1 k2 with ⟨k3a, k3, b3, hz3a, hz3b, hz3c⟩ | ⟨f3, p3, hz3a, hz3c⟩ | ⟨k3a, f3, p3, hz3a, hz3b, hz3c⟩
        · obtain ⟨T3, hT3, hb3⟩ := zp_dng_lt hD8 hS8 hT hM.1 9 0 _ _ _ (zp_kw_E hM.1 s2.1.1 hz3a) (Nat.two_pow_pos D) hz3b
          subst hb3
          obtain ⟨u3, rv3, q3, g3, r3⟩ := zm_dangers (w := w) (t := t) (u := u2) hM (zw_fears (Ls := Ls) (xs := xs)) s2 (show zRN S1 (u2 72) by rw [g2.1 72 (by decide) (by decide)]; exact n1)
          rw [hz3c] at r3
          obtain ⟨rb3, s3⟩ : rv3 = nI T3 ∧ zMs tn ts tp tv E B k3 u3 := r3
          rw [rb3] at q3
          refine zx.cl (v := some (.int (nI T3))) (h' := zH u3 w t) rfl q3 ?_
          show zx zk_mt zk_ex Ls xs zm_304 (39, [(0, .ref 69), (1, .int (nI Gn)), (2, .int (nI x2))], [.int (nI T3)]) (zH u3 w t) _
          refine zx.adv 3 (f' := (44, [(0, .ref 69), (1, .int (nI Gn)), (2, .int (nI x2)), (3, .int (nI T3))], [.int (u3 68 13)])) (h' := zH u3 w t) rfl ?_
          rw [show (u3 68 13) = 0 from s3.2.2]
          refine zx.br (f1 := (48, [(0, .ref 69), (1, .int (nI Gn)), (2, .int (nI x2)), (3, .int (nI T3))], [])) (f2 := (47, [(0, .ref 69), (1, .int (nI Gn)), (2, .int (nI x2)), (3, .int (nI T3))], [])) rfl (fun c2 => ?_) (fun c2 => absurd (by decide) (of_decide_eq_false c2))
          refine zx.adv 6 (f' := (57, [(0, .ref 69), (1, .int (nI Gn)), (2, .int (nI x2)), (3, .int (nI T3))], [.int (2 * (nI Gn)), .int 33, .ref 73])) (h' := zH u3 w t) rfl ?_
          rw [show 2 * (nI Gn) = nI (2 * Gn) from pk_mul 2 Gn]
          refine zx.adv 1 (f' := (58, [(0, .ref 69), (1, .int (nI Gn)), (2, .int (nI x2)), (3, .int (nI T3))], [.int (33 + (nI (2 * Gn))), .ref 73])) (h' := zH u3 w t) rfl ?_
          rw [show 33 + (nI (2 * Gn)) = nI (33 + (2 * Gn)) from nI_add 33 (2 * Gn)]
          refine zx.adv 1 (f' := (59, [(0, .ref 69), (1, .int (nI Gn)), (2, .int (nI x2)), (3, .int (nI T3))], [.int (nI x2), .int (nI (33 + (2 * Gn))), .ref 73])) (h' := zH u3 w t) rfl ?_
          refine zx.ob (f' := (60, [(0, .ref 69), (1, .int (nI Gn)), (2, .int (nI x2)), (3, .int (nI T3))], [])) (h' := zH (zb u3 72 (upd (u3 72) (nI (33 + (2 * Gn))).toNatClampNeg (nI x2))) w t) rfl (by first | exact zk_inN (by omega) (by decide) | decide) ?_
          rw [nI_clamp (show (33 + (2 * Gn)) < 2 ^ 31 by omega)]
          refine zx.adv 6 (f' := (69, [(0, .ref 69), (1, .int (nI Gn)), (2, .int (nI x2)), (3, .int (nI T3))], [.int (2 * (nI Gn)), .int 33, .ref 73])) (h' := zH (zb u3 72 (upd (u3 72) (33 + (2 * Gn)) (nI x2))) w t) rfl ?_
          rw [show 2 * (nI Gn) = nI (2 * Gn) from pk_mul 2 Gn]
          refine zx.adv 1 (f' := (70, [(0, .ref 69), (1, .int (nI Gn)), (2, .int (nI x2)), (3, .int (nI T3))], [.int (33 + (nI (2 * Gn))), .ref 73])) (h' := zH (zb u3 72 (upd (u3 72) (33 + (2 * Gn)) (nI x2))) w t) rfl ?_
          rw [show 33 + (nI (2 * Gn)) = nI (33 + (2 * Gn)) from nI_add 33 (2 * Gn)]
          refine zx.adv 2 (f' := (72, [(0, .ref 69), (1, .int (nI Gn)), (2, .int (nI x2)), (3, .int (nI T3))], [.int ((nI (33 + (2 * Gn))) + 1), .ref 73])) (h' := zH (zb u3 72 (upd (u3 72) (33 + (2 * Gn)) (nI x2))) w t) rfl ?_
          rw [show (nI (33 + (2 * Gn))) + 1 = nI ((33 + (2 * Gn)) + 1) from nI_add (33 + (2 * Gn)) 1]
          refine zx.adv 1 (f' := (73, [(0, .ref 69), (1, .int (nI Gn)), (2, .int (nI x2)), (3, .int (nI T3))], [.int (nI T3), .int (nI ((33 + (2 * Gn)) + 1)), .ref 73])) (h' := zH (zb u3 72 (upd (u3 72) (33 + (2 * Gn)) (nI x2))) w t) rfl ?_
          refine zx.ob (f' := (74, [(0, .ref 69), (1, .int (nI Gn)), (2, .int (nI x2)), (3, .int (nI T3))], [])) (h' := zH (zb u3 72 (upd (upd (u3 72) (33 + (2 * Gn)) (nI x2)) (nI ((33 + (2 * Gn)) + 1)).toNatClampNeg (nI T3))) w t) rfl (by first | exact zk_inN (by omega) (by decide) | decide) ?_
          rw [nI_clamp (show ((33 + (2 * Gn)) + 1) < 2 ^ 31 by omega)]
          refine zx.adv 4 (f' := (80, [(0, .ref 69), (1, .int (nI Gn)), (2, .int (nI x2)), (3, .int (nI T3))], [.int 3, .ref 73, .int 3, .ref 73])) (h' := zH (zb u3 72 (upd (upd (u3 72) (33 + (2 * Gn)) (nI x2)) ((33 + (2 * Gn)) + 1) (nI T3))) w t) rfl ?_
          refine zx.ob (f' := (81, [(0, .ref 69), (1, .int (nI Gn)), (2, .int (nI x2)), (3, .int (nI T3))], [.int ((upd (upd (u3 72) (33 + (2 * Gn)) (nI x2)) ((33 + (2 * Gn)) + 1) (nI T3)) (3 : Int32).toNatClampNeg), .int 3, .ref 73])) (h' := zH (zb u3 72 (upd (upd (u3 72) (33 + (2 * Gn)) (nI x2)) ((33 + (2 * Gn)) + 1) (nI T3))) w t) rfl rfl ?_
          show zx zk_mt zk_ex Ls xs zm_304 (81, [(0, .ref 69), (1, .int (nI Gn)), (2, .int (nI x2)), (3, .int (nI T3))], [.int ((upd (upd (u3 72) (33 + (2 * Gn)) (nI x2)) ((33 + (2 * Gn)) + 1) (nI T3)) 3), .int 3, .ref 73]) (zH (zb u3 72 (upd (upd (u3 72) (33 + (2 * Gn)) (nI x2)) ((33 + (2 * Gn)) + 1) (nI T3))) w t) _
          rw [show (upd (upd (u3 72) (33 + (2 * Gn)) (nI x2)) ((33 + (2 * Gn)) + 1) (nI T3)) 3 = nI Gn from (((zE.g (g3.1 72 (by decide) (by decide)) (zE.g (g2.1 72 (by decide) (by decide)) e1)).u.u) 3 (by decide)).trans ((pk_un (show 3 ≠ ((33 + (2 * Gn)) + 1) by omega)).trans ((pk_un (show 3 ≠ (33 + (2 * Gn)) by omega)).trans h723))]
          refine zx.adv 2 (f' := (83, [(0, .ref 69), (1, .int (nI Gn)), (2, .int (nI x2)), (3, .int (nI T3))], [.int ((nI Gn) + 1), .int 3, .ref 73])) (h' := zH (zb u3 72 (upd (upd (u3 72) (33 + (2 * Gn)) (nI x2)) ((33 + (2 * Gn)) + 1) (nI T3))) w t) rfl ?_
          rw [show (nI Gn) + 1 = nI (Gn + 1) from nI_add Gn 1]
          refine zx.ob (f' := (84, [(0, .ref 69), (1, .int (nI Gn)), (2, .int (nI x2)), (3, .int (nI T3))], [])) (h' := zH (zb u3 72 (upd (upd (upd (u3 72) (33 + (2 * Gn)) (nI x2)) ((33 + (2 * Gn)) + 1) (nI T3)) (3 : Int32).toNatClampNeg (nI (Gn + 1)))) w t) rfl rfl ?_
          show zx zk_mt zk_ex Ls xs zm_304 (84, [(0, .ref 69), (1, .int (nI Gn)), (2, .int (nI x2)), (3, .int (nI T3))], []) (zH (zb u3 72 (upd (upd (upd (u3 72) (33 + (2 * Gn)) (nI x2)) ((33 + (2 * Gn)) + 1) (nI T3)) 3 (nI (Gn + 1)))) w t) _
          exact zx.rt rfl rfl ⟨(zb u3 72 (upd (upd (upd (u3 72) (33 + (2 * Gn)) (nI x2)) ((33 + (2 * Gn)) + 1) (nI T3)) 3 (nI (Gn + 1)))), rfl, (((zMk.refl.steph g1).step g2).step g3).b72, by rw [show zp_goodL tn ts tp tv k D Mn Gn Un l S = .inl (k3, (D, Mn, Gn + 1, Un, 1), (zb (zb (zb l 4 (upd (l 4) 8 (nI (Gn + 1)))) 10 (upd (l 10) Gn (nI x2))) 11 (upd (l 11) Gn (nI T3))), S1) by simp only [zp_goodL, zp_kind, zbd, hz1, hz2a, hz2b, hz3a, hz3b]]; exact ⟨s3, (zRN.u (by omega) (zRN.u (by omega) (zRN.u (by omega) (show zRN S1 (u3 72) by rw [g3.1 72 (by decide) (by decide)]; exact (show zRN S1 (u2 72) by rw [g2.1 72 (by decide) (by decide)]; exact n1))))), (by rw [show (zb u3 72 (upd (upd (upd (u3 72) (33 + (2 * Gn)) (nI x2)) ((33 + (2 * Gn)) + 1) (nI T3)) 3 (nI (Gn + 1)))) 74 = u 74 from ((g3.1 74 (by decide) (by decide)).trans ((g2.1 74 (by decide) (by decide)).trans ((g1.1 74 (by decide) (by decide) (by decide)).trans rfl)))]; exact zL_good hcap hx2 hT3 hL rfl (fun i h1 n0 n1 n2 => ((show zE (upd (upd (upd (u3 72) (33 + (2 * Gn)) (nI x2)) ((33 + (2 * Gn)) + 1) (nI T3)) 3 (nI (Gn + 1))) (upd (upd (upd (u 72) (33 + (2 * Gn)) (nI x2)) ((33 + (2 * Gn)) + 1) (nI T3)) 3 (nI (Gn + 1))) from (zE.g (g3.1 72 (by decide) (by decide)) (zE.g (g2.1 72 (by decide) (by decide)) e1)).u.u.u) i h1).trans ((pk_un n0).trans ((pk_un n2).trans (pk_un n1)))) (((show zE (upd (upd (upd (u3 72) (33 + (2 * Gn)) (nI x2)) ((33 + (2 * Gn)) + 1) (nI T3)) 3 (nI (Gn + 1))) (upd (upd (upd (u 72) (33 + (2 * Gn)) (nI x2)) ((33 + (2 * Gn)) + 1) (nI T3)) 3 (nI (Gn + 1))) from (zE.g (g3.1 72 (by decide) (by decide)) (zE.g (g2.1 72 (by decide) (by decide)) e1)).u.u.u) (3) (by omega)).trans pk_us) (((show zE (upd (upd (upd (u3 72) (33 + (2 * Gn)) (nI x2)) ((33 + (2 * Gn)) + 1) (nI T3)) 3 (nI (Gn + 1))) (upd (upd (upd (u 72) (33 + (2 * Gn)) (nI x2)) ((33 + (2 * Gn)) + 1) (nI T3)) 3 (nI (Gn + 1))) from (zE.g (g3.1 72 (by decide) (by decide)) (zE.g (g2.1 72 (by decide) (by decide)) e1)).u.u.u) (33 + 2 * Gn) (by omega)).trans ((pk_un (show 33 + 2 * Gn ≠ 3 by omega)).trans ((pk_un (show 33 + 2 * Gn ≠ ((33 + (2 * Gn)) + 1) by omega)).trans pk_us))) (((show zE (upd (upd (upd (u3 72) (33 + (2 * Gn)) (nI x2)) ((33 + (2 * Gn)) + 1) (nI T3)) 3 (nI (Gn + 1))) (upd (upd (upd (u 72) (33 + (2 * Gn)) (nI x2)) ((33 + (2 * Gn)) + 1) (nI T3)) 3 (nI (Gn + 1))) from (zE.g (g3.1 72 (by decide) (by decide)) (zE.g (g2.1 72 (by decide) (by decide)) e1)).u.u.u) (33 + 2 * Gn + 1) (by omega)).trans ((pk_un (show 33 + 2 * Gn + 1 ≠ 3 by omega)).trans pk_us)))⟩⟩
        · obtain ⟨u3, rv3, q3, g3, r3⟩ := zm_dangers (w := w) (t := t) (u := u2) hM (zw_fears (Ls := Ls) (xs := xs)) s2 (show zRN S1 (u2 72) by rw [g2.1 72 (by decide) (by decide)]; exact n1)
          rw [hz3c] at r3
          have y3 : zMx f3 p3 u3 := r3
          refine zx.cl (v := some (.int rv3)) (h' := zH u3 w t) rfl q3 ?_
          show zx zk_mt zk_ex Ls xs zm_304 (39, [(0, .ref 69), (1, .int (nI Gn)), (2, .int (nI x2))], [.int rv3]) (zH u3 w t) _
          refine zx.adv 3 (f' := (44, [(0, .ref 69), (1, .int (nI Gn)), (2, .int (nI x2)), (3, .int rv3)], [.int (u3 68 13)])) (h' := zH u3 w t) rfl ?_
          rw [show (u3 68 13) = 1 from y3.1]
          refine zx.br (f1 := (48, [(0, .ref 69), (1, .int (nI Gn)), (2, .int (nI x2)), (3, .int rv3)], [])) (f2 := (47, [(0, .ref 69), (1, .int (nI Gn)), (2, .int (nI x2)), (3, .int rv3)], [])) rfl (fun c3 => absurd (of_decide_eq_true c3) (by decide)) (fun c3 => ?_)
          exact zx.rt rfl rfl ⟨u3, rfl, (((zMk.refl.steph g1).step g2).step g3), by rw [show zp_goodL tn ts tp tv k D Mn Gn Un l S = .inr (f3, p3) by simp only [zp_goodL, zp_kind, zbd, hz1, hz2a, hz2b, hz3a]]; exact y3⟩
        · obtain ⟨u3, rv3, q3, g3, r3⟩ := zm_dangers (w := w) (t := t) (u := u2) hM (zw_fears (Ls := Ls) (xs := xs)) s2 (show zRN S1 (u2 72) by rw [g2.1 72 (by decide) (by decide)]; exact n1)
          rw [hz3c] at r3
          have y3 : zMx f3 p3 u3 := r3
          refine zx.cl (v := some (.int rv3)) (h' := zH u3 w t) rfl q3 ?_
          show zx zk_mt zk_ex Ls xs zm_304 (39, [(0, .ref 69), (1, .int (nI Gn)), (2, .int (nI x2))], [.int rv3]) (zH u3 w t) _
          refine zx.adv 3 (f' := (44, [(0, .ref 69), (1, .int (nI Gn)), (2, .int (nI x2)), (3, .int rv3)], [.int (u3 68 13)])) (h' := zH u3 w t) rfl ?_
          rw [show (u3 68 13) = 1 from y3.1]
          refine zx.br (f1 := (48, [(0, .ref 69), (1, .int (nI Gn)), (2, .int (nI x2)), (3, .int rv3)], [])) (f2 := (47, [(0, .ref 69), (1, .int (nI Gn)), (2, .int (nI x2)), (3, .int rv3)], [])) rfl (fun c4 => absurd (of_decide_eq_true c4) (by decide)) (fun c4 => ?_)
          exact zx.rt rfl rfl ⟨u3, rfl, (((zMk.refl.steph g1).step g2).step g3), by rw [show zp_goodL tn ts tp tv k D Mn Gn Un l S = .inr (f3, p3) by simp only [zp_goodL, zp_kind, zbd, hz1, hz2a, hz2b, hz3a, hz3b]]; exact y3⟩
      · obtain ⟨u2, q2, g2, r2⟩ := zm_after (w := w) (t := t) (u := u1) hM (zw_worth (Ls := Ls) (xs := xs)) (lo := 1) (hi := 99) (by decide) (by decide) s1
        rw [hz2c] at q2 r2
        have y2 : zMx f2 p2 u2 := r2
        refine zx.cl (v := some (.int (nI 1))) (h' := zH u2 w t) rfl q2 ?_
        show zx zk_mt zk_ex Ls xs zm_304 (32, [(0, .ref 69), (1, .int (nI Gn))], [.int (nI 1)]) (zH u2 w t) _
        refine zx.adv 3 (f' := (36, [(0, .ref 69), (1, .int (nI Gn)), (2, .int (nI 1))], [.retAddr 35, .ref 69])) (h' := zH u2 w t) rfl ?_
        refine zx.cl (v := some (.int 0)) (h' := zH u2 w t) rfl (zm_dangers_x (u := u2) 35 y2.1) ?_
        show zx zk_mt zk_ex Ls xs zm_304 (39, [(0, .ref 69), (1, .int (nI Gn)), (2, .int (nI 1))], [.int 0]) (zH u2 w t) _
        refine zx.adv 3 (f' := (44, [(0, .ref 69), (1, .int (nI Gn)), (2, .int (nI 1)), (3, .int 0)], [.int (u2 68 13)])) (h' := zH u2 w t) rfl ?_
        rw [show (u2 68 13) = 1 from y2.1]
        refine zx.br (f1 := (48, [(0, .ref 69), (1, .int (nI Gn)), (2, .int (nI 1)), (3, .int 0)], [])) (f2 := (47, [(0, .ref 69), (1, .int (nI Gn)), (2, .int (nI 1)), (3, .int 0)], [])) rfl (fun c5 => absurd (of_decide_eq_true c5) (by decide)) (fun c5 => ?_)
        exact zx.rt rfl rfl ⟨u2, rfl, ((zMk.refl.steph g1).step g2), by rw [show zp_goodL tn ts tp tv k D Mn Gn Un l S = .inr (f2, p2) by simp only [zp_goodL, zp_kind, zbd, hz1, hz2a]]; exact y2⟩
      · obtain ⟨u2, q2, g2, r2⟩ := zm_after (w := w) (t := t) (u := u1) hM (zw_worth (Ls := Ls) (xs := xs)) (lo := 1) (hi := 99) (by decide) (by decide) s1
        rw [hz2c] at q2 r2
        have y2 : zMx f2 p2 u2 := r2
        refine zx.cl (v := some (.int (nI 1))) (h' := zH u2 w t) rfl q2 ?_
        show zx zk_mt zk_ex Ls xs zm_304 (32, [(0, .ref 69), (1, .int (nI Gn))], [.int (nI 1)]) (zH u2 w t) _
        refine zx.adv 3 (f' := (36, [(0, .ref 69), (1, .int (nI Gn)), (2, .int (nI 1))], [.retAddr 35, .ref 69])) (h' := zH u2 w t) rfl ?_
        refine zx.cl (v := some (.int 0)) (h' := zH u2 w t) rfl (zm_dangers_x (u := u2) 35 y2.1) ?_
        show zx zk_mt zk_ex Ls xs zm_304 (39, [(0, .ref 69), (1, .int (nI Gn)), (2, .int (nI 1))], [.int 0]) (zH u2 w t) _
        refine zx.adv 3 (f' := (44, [(0, .ref 69), (1, .int (nI Gn)), (2, .int (nI 1)), (3, .int 0)], [.int (u2 68 13)])) (h' := zH u2 w t) rfl ?_
        rw [show (u2 68 13) = 1 from y2.1]
        refine zx.br (f1 := (48, [(0, .ref 69), (1, .int (nI Gn)), (2, .int (nI 1)), (3, .int 0)], [])) (f2 := (47, [(0, .ref 69), (1, .int (nI Gn)), (2, .int (nI 1)), (3, .int 0)], [])) rfl (fun c6 => absurd (of_decide_eq_true c6) (by decide)) (fun c6 => ?_)
        exact zx.rt rfl rfl ⟨u2, rfl, ((zMk.refl.steph g1).step g2), by rw [show zp_goodL tn ts tp tv k D Mn Gn Un l S = .inr (f2, p2) by simp only [zp_goodL, zp_kind, zbd, hz1, hz2a, hz2b]]; exact y2⟩
    · obtain ⟨u1, q1, g1, r1⟩ := zm_newName (w := w) (t := t) (u := u) hM (s := (13 + Gn)) (by omega) hs hN
      rw [hz1] at r1
      have y1 : zMx f1 p1 u1 := r1
      refine zx.cl (v := none) (h' := zH u1 w t) rfl q1 ?_
      show zx zk_mt zk_ex Ls xs zm_304 (23, [(0, .ref 69), (1, .int (nI Gn))], []) (zH u1 w t) _
      refine zx.adv 4 (f' := (29, [(0, .ref 69), (1, .int (nI Gn))], [.int 99, .int 1, .retAddr 34, .ref 69])) (h' := zH u1 w t) rfl ?_
      refine zx.cl (v := some (.int 1)) (h' := zH u1 w t) rfl (zm_after_x (u := u1) 34 1 99 y1.1) ?_
      show zx zk_mt zk_ex Ls xs zm_304 (32, [(0, .ref 69), (1, .int (nI Gn))], [.int 1]) (zH u1 w t) _
      refine zx.adv 3 (f' := (36, [(0, .ref 69), (1, .int (nI Gn)), (2, .int 1)], [.retAddr 35, .ref 69])) (h' := zH u1 w t) rfl ?_
      refine zx.cl (v := some (.int 0)) (h' := zH u1 w t) rfl (zm_dangers_x (u := u1) 35 y1.1) ?_
      show zx zk_mt zk_ex Ls xs zm_304 (39, [(0, .ref 69), (1, .int (nI Gn)), (2, .int 1)], [.int 0]) (zH u1 w t) _
      refine zx.adv 3 (f' := (44, [(0, .ref 69), (1, .int (nI Gn)), (2, .int 1), (3, .int 0)], [.int (u1 68 13)])) (h' := zH u1 w t) rfl ?_
      rw [show (u1 68 13) = 1 from y1.1]
      refine zx.br (f1 := (48, [(0, .ref 69), (1, .int (nI Gn)), (2, .int 1), (3, .int 0)], [])) (f2 := (47, [(0, .ref 69), (1, .int (nI Gn)), (2, .int 1), (3, .int 0)], [])) rfl (fun c7 => absurd (of_decide_eq_true c7) (by decide)) (fun c7 => ?_)
      exact zx.rt rfl rfl ⟨u1, rfl, (zMk.refl.steph g1), by rw [show zp_goodL tn ts tp tv k D Mn Gn Un l S = .inr (f1, p1) by simp only [zp_goodL, zp_kind, zbd, hz1]]; exact y1⟩
  obtain ⟨q, h1, u', rfl, h2⟩ := main
  exact ⟨u', h1, h2⟩
theorem zm_befellLine (hM : zk_MA Ls xs tn ts tp tv E B) (hT : zt_ok tn ts tv E) {k D Mn Gn Un : Nat} {l : Nat → Nat → Int32} {S : Nat → Int64} (hs : zMs tn ts tp tv E B k u) (hN : zRN S (u 72)) (hS : zSr D Mn Gn S) (hL : zL D Mn Gn Un 1 l (u 72) (u 74)) : ∃ u', zk_Cr zk_mt zk_ex Ls xs 297 [.ref 69] (zH u w t) (none, zH u' w t) ∧ zML tn ts tp tv E B (zp_befellL tn ts tp tv k D Mn Gn Un l S) u u' := by
  have main : ∃ q, zk_Cr zk_mt zk_ex Ls xs 297 [.ref 69] (zH u w t) q ∧ ∃ u', q = (none, zH u' w t) ∧ zML tn ts tp tv E B (zp_befellL tn ts tp tv k D Mn Gn Un l S) u u' := by
    have hD8 : D ≤ 8 := hL.1.1.1
    have hM5' : Mn ≤ 5 := hL.1.1.2.1
    have hG4' : Gn ≤ 4 := hL.1.1.2.2.1
    have hU4' : Un ≤ 4 := hL.1.1.2.2.2
    have h721 : u 72 1 = nI D := hL.1.2.1.2.1
    have h722 : u 72 2 = nI Mn := hL.1.2.1.2.2.2.1
    have h723 : u 72 3 = nI Gn := hL.1.2.1.2.2.2.2.2.1
    have h724 : u 72 4 = nI Un := hL.1.2.1.2.2.2.2.2.2.2
    refine zx.of (K := zm_297) rfl rfl rfl ?_
    show zx zk_mt zk_ex Ls xs zm_297 (0, [(0, .ref 69)], []) (zH u w t) _
    refine zx.adv 1 (f' := (1, [(0, .ref 69)], [.ref 69])) (h' := zH u w t) rfl ?_
    rcases hz1 : zp_see tn ts tp tv 13 17 S k with x1 | ⟨f1, p1⟩
    · obtain ⟨u1, q1, g1, r1⟩ := zm_goodHere (Ls := Ls) (xs := xs) (w := w) (t := t) (u := u) hs hN
      rw [hz1] at q1 r1
      rw [show u1 = u from r1] at q1
      have hx1 : x1 < Gn := by have := zSr_see hS hT hs.1.1 hz1; omega
      refine zx.cl (v := some (.int (nI x1))) (h' := zH u w t) rfl q1 ?_
      show zx zk_mt zk_ex Ls xs zm_297 (4, [(0, .ref 69)], [.int (nI x1)]) (zH u w t) _
      refine zx.adv 3 (f' := (9, [(0, .ref 69), (1, .int (nI x1))], [.int (u 68 13)])) (h' := zH u w t) rfl ?_
      rw [show (u 68 13) = 0 from hs.2.2]
      refine zx.br (f1 := (12, [(0, .ref 69), (1, .int (nI x1))], [])) (f2 := (33, [(0, .ref 69), (1, .int (nI x1))], [])) rfl (fun c1 => ?_) (fun c1 => absurd (by decide) (of_decide_eq_false c1))
      refine zx.adv 5 (f' := (20, [(0, .ref 69), (1, .int (nI x1))], [.int (49 + (nI x1)), .ref 73])) (h' := zH u w t) rfl ?_
      rw [show 49 + (nI x1) = nI (49 + x1) from nI_add 49 x1]
      refine zx.ob (f' := (21, [(0, .ref 69), (1, .int (nI x1))], [.int (u 72 (nI (49 + x1)).toNatClampNeg)])) (h' := zH u w t) rfl (by first | exact zk_inN (by omega) (by decide) | decide) ?_
      rw [nI_clamp (show (49 + x1) < 2 ^ 31 by omega)]
      rw [show u 72 (49 + x1) = l 13 x1 from hL.be hx1]
      refine zx.br (f1 := (33, [(0, .ref 69), (1, .int (nI x1))], [])) (f2 := (24, [(0, .ref 69), (1, .int (nI x1))], [])) rfl (fun c2 => ?_) (fun c2 => ?_)
      · have c2 : (l 13 x1) ≤ 0 := of_decide_eq_true c2
        refine zx.adv 1 (f' := (34, [(0, .ref 69), (1, .int (nI x1))], [.ref 69])) (h' := zH u w t) rfl ?_
        skip
        · obtain ⟨u2, q2, g2, s2⟩ := zm_pass (w := w) (t := t) (u := u) hM hs
          refine zx.cl (v := none) (h' := zH u2 w t) rfl q2 ?_
          show zx zk_mt zk_ex Ls xs zm_297 (37, [(0, .ref 69), (1, .int (nI x1))], []) (zH u2 w t) _
          refine zx.adv 4 (f' := (44, [(0, .ref 69), (1, .int (nI x1))], [.int 40, .int 1, .retAddr 36, .ref 69])) (h' := zH u2 w t) rfl ?_
          rcases zp_aft_cases tn ts tp tv 824370 1 40 (tn k) with ⟨k3a, k3, x3, hz3a, hz3b, hz3c⟩ | ⟨f3, p3, hz3a, hz3c⟩ | ⟨k3a, f3, p3, hz3a, hz3b, hz3c⟩
          · obtain ⟨u3, q3, g3, r3⟩ := zm_after (w := w) (t := t) (u := u2) hM (zw_year (Ls := Ls) (xs := xs)) (lo := 1) (hi := 40) (by decide) (by decide) s2
            rw [hz3c] at q3 r3
            have s3 : zMs tn ts tp tv E B k3 u3 := r3
            have hx3 := zp_num_in hz3b
            refine zx.cl (v := some (.int (nI x3))) (h' := zH u3 w t) rfl q3 ?_
            show zx zk_mt zk_ex Ls xs zm_297 (47, [(0, .ref 69), (1, .int (nI x1))], [.int (nI x3)]) (zH u3 w t) _
            refine zx.adv 3 (f' := (52, [(0, .ref 69), (1, .int (nI x1)), (2, .int (nI x3))], [.int (u3 68 13)])) (h' := zH u3 w t) rfl ?_
            rw [show (u3 68 13) = 0 from s3.2.2]
            refine zx.br (f1 := (56, [(0, .ref 69), (1, .int (nI x1)), (2, .int (nI x3))], [])) (f2 := (55, [(0, .ref 69), (1, .int (nI x1)), (2, .int (nI x3))], [])) rfl (fun c3 => ?_) (fun c3 => absurd (by decide) (of_decide_eq_false c3))
            refine zx.adv 5 (f' := (64, [(0, .ref 69), (1, .int (nI x1)), (2, .int (nI x3))], [.int (49 + (nI x1)), .ref 73])) (h' := zH u3 w t) rfl ?_
            rw [show 49 + (nI x1) = nI (49 + x1) from nI_add 49 x1]
            refine zx.adv 1 (f' := (65, [(0, .ref 69), (1, .int (nI x1)), (2, .int (nI x3))], [.int (nI x3), .int (nI (49 + x1)), .ref 73])) (h' := zH u3 w t) rfl ?_
            refine zx.ob (f' := (66, [(0, .ref 69), (1, .int (nI x1)), (2, .int (nI x3))], [])) (h' := zH (zb u3 72 (upd (u3 72) (nI (49 + x1)).toNatClampNeg (nI x3))) w t) rfl (by first | exact zk_inN (by omega) (by decide) | decide) ?_
            rw [nI_clamp (show (49 + x1) < 2 ^ 31 by omega)]
            refine zx.adv 4 (f' := (72, [(0, .ref 69), (1, .int (nI x1)), (2, .int (nI x3))], [.int 5, .ref 73, .int 5, .ref 73])) (h' := zH (zb u3 72 (upd (u3 72) (49 + x1) (nI x3))) w t) rfl ?_
            refine zx.ob (f' := (73, [(0, .ref 69), (1, .int (nI x1)), (2, .int (nI x3))], [.int ((upd (u3 72) (49 + x1) (nI x3)) (5 : Int32).toNatClampNeg), .int 5, .ref 73])) (h' := zH (zb u3 72 (upd (u3 72) (49 + x1) (nI x3))) w t) rfl rfl ?_
            show zx zk_mt zk_ex Ls xs zm_297 (73, [(0, .ref 69), (1, .int (nI x1)), (2, .int (nI x3))], [.int ((upd (u3 72) (49 + x1) (nI x3)) 5), .int 5, .ref 73]) (zH (zb u3 72 (upd (u3 72) (49 + x1) (nI x3))) w t) _
            rw [show (upd (u3 72) (49 + x1) (nI x3)) 5 = (u 72 5) from (((zE.g (g3.1 72 (by decide) (by decide)) (zE.g (g2.1 72 (by decide) (by decide)) zE.refl)).u) 5 (by decide)).trans ((pk_un (show 5 ≠ (49 + x1) by omega)).trans rfl)]
            refine zx.adv 2 (f' := (75, [(0, .ref 69), (1, .int (nI x1)), (2, .int (nI x3))], [.int ((u 72 5) + 1), .int 5, .ref 73])) (h' := zH (zb u3 72 (upd (u3 72) (49 + x1) (nI x3))) w t) rfl ?_
            refine zx.ob (f' := (76, [(0, .ref 69), (1, .int (nI x1)), (2, .int (nI x3))], [])) (h' := zH (zb u3 72 (upd (upd (u3 72) (49 + x1) (nI x3)) (5 : Int32).toNatClampNeg ((u 72 5) + 1))) w t) rfl rfl ?_
            show zx zk_mt zk_ex Ls xs zm_297 (76, [(0, .ref 69), (1, .int (nI x1)), (2, .int (nI x3))], []) (zH (zb u3 72 (upd (upd (u3 72) (49 + x1) (nI x3)) 5 ((u 72 5) + 1))) w t) _
            exact zx.rt rfl rfl ⟨(zb u3 72 (upd (upd (u3 72) (49 + x1) (nI x3)) 5 ((u 72 5) + 1))), rfl, ((zMk.refl.step g2).step g3).b72, by rw [show zp_befellL tn ts tp tv k D Mn Gn Un l S = .inl (k3, (D, Mn, Gn, Un, 1), (zb (zb l 4 (upd (l 4) 13 ((l 4) 13 + 1))) 13 (upd (l 13) x1 (nI x3))), S) by simp only [zp_befellL, zp_kind, zbd, hz1, hz3a, hz3b, if_pos c2]]; exact ⟨s3, (zRN.u (by omega) (zRN.u (by omega) (show zRN S (u3 72) by rw [g3.1 72 (by decide) (by decide)]; exact (show zRN S (u2 72) by rw [g2.1 72 (by decide) (by decide)]; exact hN)))), (by rw [show (zb u3 72 (upd (upd (u3 72) (49 + x1) (nI x3)) 5 ((u 72 5) + 1))) 74 = u 74 from ((g3.1 74 (by decide) (by decide)).trans ((g2.1 74 (by decide) (by decide)).trans rfl))]; exact zL_befell hx1 hx3 hL rfl (fun i h1 n0 n1 => ((show zE (upd (upd (u3 72) (49 + x1) (nI x3)) 5 ((u 72 5) + 1)) (upd (upd (u 72) (49 + x1) (nI x3)) 5 ((u 72 5) + 1)) from (zE.g (g3.1 72 (by decide) (by decide)) (zE.g (g2.1 72 (by decide) (by decide)) zE.refl)).u.u) i h1).trans ((pk_un n0).trans (pk_un n1))) (((show zE (upd (upd (u3 72) (49 + x1) (nI x3)) 5 ((u 72 5) + 1)) (upd (upd (u 72) (49 + x1) (nI x3)) 5 ((u 72 5) + 1)) from (zE.g (g3.1 72 (by decide) (by decide)) (zE.g (g2.1 72 (by decide) (by decide)) zE.refl)).u.u) (5) (by omega)).trans pk_us) (((show zE (upd (upd (u3 72) (49 + x1) (nI x3)) 5 ((u 72 5) + 1)) (upd (upd (u 72) (49 + x1) (nI x3)) 5 ((u 72 5) + 1)) from (zE.g (g3.1 72 (by decide) (by decide)) (zE.g (g2.1 72 (by decide) (by decide)) zE.refl)).u.u) (49 + x1) (by omega)).trans ((pk_un (show 49 + x1 ≠ 5 by omega)).trans pk_us)))⟩⟩
          · obtain ⟨u3, q3, g3, r3⟩ := zm_after (w := w) (t := t) (u := u2) hM (zw_year (Ls := Ls) (xs := xs)) (lo := 1) (hi := 40) (by decide) (by decide) s2
            rw [hz3c] at q3 r3
            have y3 : zMx f3 p3 u3 := r3
            refine zx.cl (v := some (.int (nI 1))) (h' := zH u3 w t) rfl q3 ?_
            show zx zk_mt zk_ex Ls xs zm_297 (47, [(0, .ref 69), (1, .int (nI x1))], [.int (nI 1)]) (zH u3 w t) _
            refine zx.adv 3 (f' := (52, [(0, .ref 69), (1, .int (nI x1)), (2, .int (nI 1))], [.int (u3 68 13)])) (h' := zH u3 w t) rfl ?_
            rw [show (u3 68 13) = 1 from y3.1]
            refine zx.br (f1 := (56, [(0, .ref 69), (1, .int (nI x1)), (2, .int (nI 1))], [])) (f2 := (55, [(0, .ref 69), (1, .int (nI x1)), (2, .int (nI 1))], [])) rfl (fun c4 => absurd (of_decide_eq_true c4) (by decide)) (fun c4 => ?_)
            exact zx.rt rfl rfl ⟨u3, rfl, ((zMk.refl.step g2).step g3), by rw [show zp_befellL tn ts tp tv k D Mn Gn Un l S = .inr (f3, p3) by simp only [zp_befellL, zp_kind, zbd, hz1, hz3a, if_pos c2]]; exact y3⟩
          · obtain ⟨u3, q3, g3, r3⟩ := zm_after (w := w) (t := t) (u := u2) hM (zw_year (Ls := Ls) (xs := xs)) (lo := 1) (hi := 40) (by decide) (by decide) s2
            rw [hz3c] at q3 r3
            have y3 : zMx f3 p3 u3 := r3
            refine zx.cl (v := some (.int (nI 1))) (h' := zH u3 w t) rfl q3 ?_
            show zx zk_mt zk_ex Ls xs zm_297 (47, [(0, .ref 69), (1, .int (nI x1))], [.int (nI 1)]) (zH u3 w t) _
            refine zx.adv 3 (f' := (52, [(0, .ref 69), (1, .int (nI x1)), (2, .int (nI 1))], [.int (u3 68 13)])) (h' := zH u3 w t) rfl ?_
            rw [show (u3 68 13) = 1 from y3.1]
            refine zx.br (f1 := (56, [(0, .ref 69), (1, .int (nI x1)), (2, .int (nI 1))], [])) (f2 := (55, [(0, .ref 69), (1, .int (nI x1)), (2, .int (nI 1))], [])) rfl (fun c5 => absurd (of_decide_eq_true c5) (by decide)) (fun c5 => ?_)
            exact zx.rt rfl rfl ⟨u3, rfl, ((zMk.refl.step g2).step g3), by rw [show zp_befellL tn ts tp tv k D Mn Gn Un l S = .inr (f3, p3) by simp only [zp_befellL, zp_kind, zbd, hz1, hz3a, hz3b, if_pos c2]]; exact y3⟩
      · have c2 : ¬ ((l 13 x1) ≤ 0) := of_decide_eq_false c2
        refine zx.adv 4 (f' := (30, [(0, .ref 69), (1, .int (nI x1))], [.int (u 68 4), .int 3, .ref 69])) (h' := zH u w t) rfl ?_
        refine zx.cl (v := none) (h' := zH (zb u 68 (upd (upd (upd (u 68) 9 3) 10 (u 68 4)) 13 1)) w t) rfl (zs_mwrong_0 (v := u) (w := w) hs.2.2 3 (u 68 4)) ?_
        show zx zk_mt zk_ex Ls xs zm_297 (33, [(0, .ref 69), (1, .int (nI x1))], []) (zH (zb u 68 (upd (upd (upd (u 68) 9 3) 10 (u 68 4)) 13 1)) w t) _
        refine zx.adv 1 (f' := (34, [(0, .ref 69), (1, .int (nI x1))], [.ref 69])) (h' := zH (zb u 68 (upd (upd (upd (u 68) 9 3) 10 (u 68 4)) 13 1)) w t) rfl ?_
        refine zx.cl (v := none) (h' := zH (zb u 68 (upd (upd (upd (u 68) 9 3) 10 (u 68 4)) 13 1)) w t) rfl (zm_pass_x (u := (zb u 68 (upd (upd (upd (u 68) 9 3) 10 (u 68 4)) 13 1))) rfl) ?_
        show zx zk_mt zk_ex Ls xs zm_297 (37, [(0, .ref 69), (1, .int (nI x1))], []) (zH (zb u 68 (upd (upd (upd (u 68) 9 3) 10 (u 68 4)) 13 1)) w t) _
        refine zx.adv 4 (f' := (44, [(0, .ref 69), (1, .int (nI x1))], [.int 40, .int 1, .retAddr 36, .ref 69])) (h' := zH (zb u 68 (upd (upd (upd (u 68) 9 3) 10 (u 68 4)) 13 1)) w t) rfl ?_
        refine zx.cl (v := some (.int 1)) (h' := zH (zb u 68 (upd (upd (upd (u 68) 9 3) 10 (u 68 4)) 13 1)) w t) rfl (zm_after_x (u := (zb u 68 (upd (upd (upd (u 68) 9 3) 10 (u 68 4)) 13 1))) 36 1 40 rfl) ?_
        show zx zk_mt zk_ex Ls xs zm_297 (47, [(0, .ref 69), (1, .int (nI x1))], [.int 1]) (zH (zb u 68 (upd (upd (upd (u 68) 9 3) 10 (u 68 4)) 13 1)) w t) _
        refine zx.adv 3 (f' := (52, [(0, .ref 69), (1, .int (nI x1)), (2, .int 1)], [.int 1])) (h' := zH (zb u 68 (upd (upd (upd (u 68) 9 3) 10 (u 68 4)) 13 1)) w t) rfl ?_
        refine zx.br (f1 := (56, [(0, .ref 69), (1, .int (nI x1)), (2, .int 1)], [])) (f2 := (55, [(0, .ref 69), (1, .int (nI x1)), (2, .int 1)], [])) rfl (fun c6 => absurd (of_decide_eq_true c6) (by decide)) (fun c6 => ?_)
        exact zx.rt rfl rfl ⟨(zb u 68 (upd (upd (upd (u 68) 9 3) 10 (u 68 4)) 13 1)), rfl, (zMk.refl.step zMg.wrong), by rw [show zp_befellL tn ts tp tv k D Mn Gn Un l S = .inr (3, (tp k)) by simp only [zp_befellL, zp_kind, zbd, hz1, if_neg c2]]; exact (zMx.wrong hs)⟩
    · obtain ⟨u1, q1, g1, r1⟩ := zm_goodHere (Ls := Ls) (xs := xs) (w := w) (t := t) (u := u) hs hN
      rw [hz1] at q1 r1
      have y1 : zMx f1 p1 u1 := r1
      refine zx.cl (v := some (.int 0)) (h' := zH u1 w t) rfl q1 ?_
      show zx zk_mt zk_ex Ls xs zm_297 (4, [(0, .ref 69)], [.int 0]) (zH u1 w t) _
      refine zx.adv 3 (f' := (9, [(0, .ref 69), (1, .int 0)], [.int (u1 68 13)])) (h' := zH u1 w t) rfl ?_
      rw [show (u1 68 13) = 1 from y1.1]
      refine zx.br (f1 := (12, [(0, .ref 69), (1, .int 0)], [])) (f2 := (33, [(0, .ref 69), (1, .int 0)], [])) rfl (fun c7 => absurd (of_decide_eq_true c7) (by decide)) (fun c7 => ?_)
      refine zx.adv 1 (f' := (34, [(0, .ref 69), (1, .int 0)], [.ref 69])) (h' := zH u1 w t) rfl ?_
      refine zx.cl (v := none) (h' := zH u1 w t) rfl (zm_pass_x (u := u1) y1.1) ?_
      show zx zk_mt zk_ex Ls xs zm_297 (37, [(0, .ref 69), (1, .int 0)], []) (zH u1 w t) _
      refine zx.adv 4 (f' := (44, [(0, .ref 69), (1, .int 0)], [.int 40, .int 1, .retAddr 36, .ref 69])) (h' := zH u1 w t) rfl ?_
      refine zx.cl (v := some (.int 1)) (h' := zH u1 w t) rfl (zm_after_x (u := u1) 36 1 40 y1.1) ?_
      show zx zk_mt zk_ex Ls xs zm_297 (47, [(0, .ref 69), (1, .int 0)], [.int 1]) (zH u1 w t) _
      refine zx.adv 3 (f' := (52, [(0, .ref 69), (1, .int 0), (2, .int 1)], [.int (u1 68 13)])) (h' := zH u1 w t) rfl ?_
      rw [show (u1 68 13) = 1 from y1.1]
      refine zx.br (f1 := (56, [(0, .ref 69), (1, .int 0), (2, .int 1)], [])) (f2 := (55, [(0, .ref 69), (1, .int 0), (2, .int 1)], [])) rfl (fun c8 => absurd (of_decide_eq_true c8) (by decide)) (fun c8 => ?_)
      exact zx.rt rfl rfl ⟨u1, rfl, (zMk.refl.step g1), by rw [show zp_befellL tn ts tp tv k D Mn Gn Un l S = .inr (f1, p1) by simp only [zp_befellL, zp_kind, zbd, hz1]]; exact y1⟩
  obtain ⟨q, h1, u', rfl, h2⟩ := main
  exact ⟨u', h1, h2⟩
theorem zm_levelLine_0 (hM : zk_MA Ls xs tn ts tp tv E B) (hT : zt_ok tn ts tv E) {k D Mn Gn Un : Nat} {l : Nat → Nat → Int32} {S : Nat → Int64} (hs : zMs tn ts tp tv E B k u) (hN : zRN S (u 72)) (hS : zSr D Mn Gn S) (hL : zL D Mn Gn Un 0 l (u 72) (u 74)) : ∃ u', zk_Cr zk_mt zk_ex Ls xs 301 [.ref 69] (zH u w t) (none, zH u' w t) ∧ zML tn ts tp tv E B (zp_levelL tn ts tp tv (tn k) D Mn Gn Un l S) u u' := by
  have main : ∃ q, zk_Cr zk_mt zk_ex Ls xs 301 [.ref 69] (zH u w t) q ∧ ∃ u', q = (none, zH u' w t) ∧ zML tn ts tp tv E B (zp_levelL tn ts tp tv (tn k) D Mn Gn Un l S) u u' := by
    have hD8 : D ≤ 8 := hL.1.1.1
    have hM5' : Mn ≤ 5 := hL.1.1.2.1
    have hG4' : Gn ≤ 4 := hL.1.1.2.2.1
    have hU4' : Un ≤ 4 := hL.1.1.2.2.2
    have h721 : u 72 1 = nI D := hL.1.2.1.2.1
    have h722 : u 72 2 = nI Mn := hL.1.2.1.2.2.2.1
    have h723 : u 72 3 = nI Gn := hL.1.2.1.2.2.2.2.2.1
    have h724 : u 72 4 = nI Un := hL.1.2.1.2.2.2.2.2.2.2
    refine zx.of (K := zm_301) rfl rfl rfl ?_
    show zx zk_mt zk_ex Ls xs zm_301 (0, [(0, .ref 69)], []) (zH u w t) _
    refine zx.adv 3 (f' := (6, [(0, .ref 69)], [.int 6, .ref 73])) (h' := zH u w t) rfl ?_
    refine zx.ob (f' := (7, [(0, .ref 69)], [.int (u 72 (6 : Int32).toNatClampNeg)])) (h' := zH u w t) rfl rfl ?_
    show zx zk_mt zk_ex Ls xs zm_301 (7, [(0, .ref 69)], [.int (u 72 6)]) (zH u w t) _
    rw [show u 72 6 = 0 from hL.2.2.1]
    refine zx.br (f1 := (19, [(0, .ref 69)], [])) (f2 := (10, [(0, .ref 69)], [])) rfl (fun c1 => ?_) (fun c1 => absurd (by decide) (of_decide_eq_false c1))
    refine zx.adv 2 (f' := (23, [(0, .ref 69)], [.int (u 68 13)])) (h' := zH u w t) rfl ?_
    rw [show (u 68 13) = 0 from hs.2.2]
    refine zx.br (f1 := (27, [(0, .ref 69)], [])) (f2 := (26, [(0, .ref 69)], [])) rfl (fun c2 => ?_) (fun c2 => absurd (by decide) (of_decide_eq_false c2))
    refine zx.adv 1 (f' := (28, [(0, .ref 69)], [.ref 69])) (h' := zH u w t) rfl ?_
    skip
    · obtain ⟨u1, q1, g1, s1⟩ := zm_next (w := w) (t := t) (u := u) hM hs
      refine zx.cl (v := none) (h' := zH u1 w t) rfl q1 ?_
      show zx zk_mt zk_ex Ls xs zm_301 (31, [(0, .ref 69)], []) (zH u1 w t) _
      refine zx.adv 7 (f' := (42, [(0, .ref 69)], [.int 100, .int 0, .retAddr 20, .ref 69, .int 0, .ref 73])) (h' := zH u1 w t) rfl ?_
      rcases zp_aft_cases tn ts tp tv 9095769 0 100 (tn k) with ⟨k2a, k2, x2, hz2a, hz2b, hz2c⟩ | ⟨f2, p2, hz2a, hz2c⟩ | ⟨k2a, f2, p2, hz2a, hz2b, hz2c⟩
      · obtain ⟨u2, q2, g2, r2⟩ := zm_after (w := w) (t := t) (u := u1) hM (zw_hurry (Ls := Ls) (xs := xs)) (lo := 0) (hi := 100) (by decide) (by decide) s1
        rw [hz2c] at q2 r2
        have s2 : zMs tn ts tp tv E B k2 u2 := r2
        have hx2 := zp_num_in hz2b
        refine zx.cl (v := some (.int (nI x2))) (h' := zH u2 w t) rfl q2 ?_
        show zx zk_mt zk_ex Ls xs zm_301 (45, [(0, .ref 69)], [.int (nI x2), .int 0, .ref 73]) (zH u2 w t) _
        refine zx.ob (f' := (46, [(0, .ref 69)], [])) (h' := zH (zb u2 72 (upd (u2 72) (0 : Int32).toNatClampNeg (nI x2))) w t) rfl rfl ?_
        show zx zk_mt zk_ex Ls xs zm_301 (46, [(0, .ref 69)], []) (zH (zb u2 72 (upd (u2 72) 0 (nI x2))) w t) _
        refine zx.adv 2 (f' := (50, [(0, .ref 69)], [.int (u2 68 13)])) (h' := zH (zb u2 72 (upd (u2 72) 0 (nI x2))) w t) rfl ?_
        rw [show (u2 68 13) = 0 from s2.2.2]
        refine zx.br (f1 := (53, [(0, .ref 69)], [])) (f2 := (61, [(0, .ref 69)], [])) rfl (fun c3 => ?_) (fun c3 => absurd (by decide) (of_decide_eq_false c3))
        refine zx.adv 4 (f' := (60, [(0, .ref 69)], [.int 1, .int 6, .ref 73])) (h' := zH (zb u2 72 (upd (u2 72) 0 (nI x2))) w t) rfl ?_
        refine zx.ob (f' := (61, [(0, .ref 69)], [])) (h' := zH (zb u2 72 (upd (upd (u2 72) 0 (nI x2)) (6 : Int32).toNatClampNeg 1)) w t) rfl rfl ?_
        show zx zk_mt zk_ex Ls xs zm_301 (61, [(0, .ref 69)], []) (zH (zb u2 72 (upd (upd (u2 72) 0 (nI x2)) 6 1)) w t) _
        exact zx.rt rfl rfl ⟨(zb u2 72 (upd (upd (u2 72) 0 (nI x2)) 6 1)), rfl, ((zMk.refl.step g1).step g2).b72, by rw [show zp_levelL tn ts tp tv (tn k) D Mn Gn Un l S = .inl (k2, (D, Mn, Gn, Un, 1), (zb l 4 (upd (l 4) 0 (nI x2))), S) by simp only [zp_levelL, zp_kind, zbd, hz2a, hz2b]]; exact ⟨s2, (zRN.u (by omega) (zRN.u (by omega) (show zRN S (u2 72) by rw [g2.1 72 (by decide) (by decide)]; exact (show zRN S (u1 72) by rw [g1.1 72 (by decide) (by decide)]; exact hN)))), (by rw [show (zb u2 72 (upd (upd (u2 72) 0 (nI x2)) 6 1)) 74 = u 74 from ((g2.1 74 (by decide) (by decide)).trans ((g1.1 74 (by decide) (by decide)).trans rfl))]; exact zL_level hx2.2 hL (fun i h1 n0 n1 => ((show zE (upd (upd (u2 72) 0 (nI x2)) 6 1) (upd (upd (u 72) 0 (nI x2)) 6 1) from (zE.g (g2.1 72 (by decide) (by decide)) (zE.g (g1.1 72 (by decide) (by decide)) zE.refl)).u.u) i h1).trans ((pk_un n1).trans (pk_un n0))) (((show zE (upd (upd (u2 72) 0 (nI x2)) 6 1) (upd (upd (u 72) 0 (nI x2)) 6 1) from (zE.g (g2.1 72 (by decide) (by decide)) (zE.g (g1.1 72 (by decide) (by decide)) zE.refl)).u.u) (0) (by omega)).trans ((pk_un (show 0 ≠ 6 by omega)).trans pk_us)) (((show zE (upd (upd (u2 72) 0 (nI x2)) 6 1) (upd (upd (u 72) 0 (nI x2)) 6 1) from (zE.g (g2.1 72 (by decide) (by decide)) (zE.g (g1.1 72 (by decide) (by decide)) zE.refl)).u.u) (6) (by omega)).trans pk_us))⟩⟩
      · obtain ⟨u2, q2, g2, r2⟩ := zm_after (w := w) (t := t) (u := u1) hM (zw_hurry (Ls := Ls) (xs := xs)) (lo := 0) (hi := 100) (by decide) (by decide) s1
        rw [hz2c] at q2 r2
        have y2 : zMx f2 p2 u2 := r2
        refine zx.cl (v := some (.int (nI 0))) (h' := zH u2 w t) rfl q2 ?_
        show zx zk_mt zk_ex Ls xs zm_301 (45, [(0, .ref 69)], [.int (nI 0), .int 0, .ref 73]) (zH u2 w t) _
        refine zx.ob (f' := (46, [(0, .ref 69)], [])) (h' := zH (zb u2 72 (upd (u2 72) (0 : Int32).toNatClampNeg (nI 0))) w t) rfl rfl ?_
        show zx zk_mt zk_ex Ls xs zm_301 (46, [(0, .ref 69)], []) (zH (zb u2 72 (upd (u2 72) 0 (nI 0))) w t) _
        refine zx.adv 2 (f' := (50, [(0, .ref 69)], [.int (u2 68 13)])) (h' := zH (zb u2 72 (upd (u2 72) 0 (nI 0))) w t) rfl ?_
        rw [show (u2 68 13) = 1 from y2.1]
        refine zx.br (f1 := (53, [(0, .ref 69)], [])) (f2 := (61, [(0, .ref 69)], [])) rfl (fun c4 => absurd (of_decide_eq_true c4) (by decide)) (fun c4 => ?_)
        exact zx.rt rfl rfl ⟨(zb u2 72 (upd (u2 72) 0 (nI 0))), rfl, ((zMk.refl.step g1).step g2).b72, by rw [show zp_levelL tn ts tp tv (tn k) D Mn Gn Un l S = .inr (f2, p2) by simp only [zp_levelL, zp_kind, zbd, hz2a]]; exact y2⟩
      · obtain ⟨u2, q2, g2, r2⟩ := zm_after (w := w) (t := t) (u := u1) hM (zw_hurry (Ls := Ls) (xs := xs)) (lo := 0) (hi := 100) (by decide) (by decide) s1
        rw [hz2c] at q2 r2
        have y2 : zMx f2 p2 u2 := r2
        refine zx.cl (v := some (.int (nI 0))) (h' := zH u2 w t) rfl q2 ?_
        show zx zk_mt zk_ex Ls xs zm_301 (45, [(0, .ref 69)], [.int (nI 0), .int 0, .ref 73]) (zH u2 w t) _
        refine zx.ob (f' := (46, [(0, .ref 69)], [])) (h' := zH (zb u2 72 (upd (u2 72) (0 : Int32).toNatClampNeg (nI 0))) w t) rfl rfl ?_
        show zx zk_mt zk_ex Ls xs zm_301 (46, [(0, .ref 69)], []) (zH (zb u2 72 (upd (u2 72) 0 (nI 0))) w t) _
        refine zx.adv 2 (f' := (50, [(0, .ref 69)], [.int (u2 68 13)])) (h' := zH (zb u2 72 (upd (u2 72) 0 (nI 0))) w t) rfl ?_
        rw [show (u2 68 13) = 1 from y2.1]
        refine zx.br (f1 := (53, [(0, .ref 69)], [])) (f2 := (61, [(0, .ref 69)], [])) rfl (fun c5 => absurd (of_decide_eq_true c5) (by decide)) (fun c5 => ?_)
        exact zx.rt rfl rfl ⟨(zb u2 72 (upd (u2 72) 0 (nI 0))), rfl, ((zMk.refl.step g1).step g2).b72, by rw [show zp_levelL tn ts tp tv (tn k) D Mn Gn Un l S = .inr (f2, p2) by simp only [zp_levelL, zp_kind, zbd, hz2a, hz2b]]; exact y2⟩
  obtain ⟨q, h1, u', rfl, h2⟩ := main
  exact ⟨u', h1, h2⟩
/-- BasketKeepModel.levelLine -/
theorem zm_levelLine_1 (hf : u 68 13 = 0) (h6 : u 72 6 = 1) : zk_Cr zk_mt zk_ex Ls xs 301 [.ref 69] (zH u w t) (none, zH (zb u 68 (upd (upd (upd (u 68) 9 3) 10 (u 68 4)) 13 1)) w t) := by
  refine zk_Cr.of (K := zm_301) rfl rfl rfl ?_
  show zk_T zk_mt zk_ex Ls xs zm_301 (0, [(0, .ref 69)], []) (zH u w t) _
  refine zk_T.adv 3 (f' := (6, [(0, .ref 69)], [.int 6, .ref 73])) (h' := zH u w t) rfl ?_
  refine zk_T.ob (f' := (7, [(0, .ref 69)], [.int (u 72 (6 : Int32).toNatClampNeg)])) (h' := zH u w t) rfl rfl ?_
  show zk_T zk_mt zk_ex Ls xs zm_301 (7, [(0, .ref 69)], [.int (u 72 6)]) (zH u w t) _
  rw [h6]
  refine zk_T.br (f1 := (19, [(0, .ref 69)], [])) (f2 := (10, [(0, .ref 69)], [])) rfl (fun c1 => absurd (of_decide_eq_true c1) (by decide)) (fun c1 => ?_)
  refine zk_T.adv 4 (f' := (16, [(0, .ref 69)], [.int (u 68 4), .int 3, .ref 69])) (h' := zH u w t) rfl ?_
  refine zk_T.cl (v := none) (h' := zH (zb u 68 (upd (upd (upd (u 68) 9 3) 10 (u 68 4)) 13 1)) w t) rfl (zs_mwrong_0 (v := u) (w := w) hf 3 (u 68 4)) ?_
  show zk_T zk_mt zk_ex Ls xs zm_301 (19, [(0, .ref 69)], []) (zH (zb u 68 (upd (upd (upd (u 68) 9 3) 10 (u 68 4)) 13 1)) w t) _
  refine zk_T.adv 2 (f' := (23, [(0, .ref 69)], [.int 1])) (h' := zH (zb u 68 (upd (upd (upd (u 68) 9 3) 10 (u 68 4)) 13 1)) w t) rfl ?_
  refine zk_T.br (f1 := (27, [(0, .ref 69)], [])) (f2 := (26, [(0, .ref 69)], [])) rfl (fun c2 => absurd (of_decide_eq_true c2) (by decide)) (fun c2 => ?_)
  exact zk_T.rt rfl rfl (by rfl)
/-- BasketKeepModel.dangerLine -/
theorem zm_dangerLine_x (hf : u 68 13 = 1) : zk_Cr zk_mt zk_ex Ls xs 298 [.ref 69] (zH u w t) (none, zH u w t) := by
  refine zk_Cr.of (K := zm_298) rfl rfl rfl ?_
  show zk_T zk_mt zk_ex Ls xs zm_298 (0, [(0, .ref 69)], []) (zH u w t) _
  refine zk_T.adv 2 (f' := (4, [(0, .ref 69)], [.int (u 68 13)])) (h' := zH u w t) rfl ?_
  rw [show (u 68 13) = 1 from hf]
  refine zk_T.br (f1 := (8, [(0, .ref 69)], [])) (f2 := (7, [(0, .ref 69)], [])) rfl (fun c1 => absurd (of_decide_eq_true c1) (by decide)) (fun c1 => ?_)
  exact zk_T.rt rfl rfl (by rfl)
/-- BasketKeepModel.makerLine -/
theorem zm_makerLine_x (hf : u 68 13 = 1) : zk_Cr zk_mt zk_ex Ls xs 305 [.ref 69] (zH u w t) (none, zH u w t) := by
  refine zk_Cr.of (K := zm_305) rfl rfl rfl ?_
  show zk_T zk_mt zk_ex Ls xs zm_305 (0, [(0, .ref 69)], []) (zH u w t) _
  refine zk_T.adv 2 (f' := (4, [(0, .ref 69)], [.int (u 68 13)])) (h' := zH u w t) rfl ?_
  rw [show (u 68 13) = 1 from hf]
  refine zk_T.br (f1 := (8, [(0, .ref 69)], [])) (f2 := (7, [(0, .ref 69)], [])) rfl (fun c1 => absurd (of_decide_eq_true c1) (by decide)) (fun c1 => ?_)
  exact zk_T.rt rfl rfl (by rfl)
/-- BasketKeepModel.goodLine -/
theorem zm_goodLine_x (hf : u 68 13 = 1) : zk_Cr zk_mt zk_ex Ls xs 304 [.ref 69] (zH u w t) (none, zH u w t) := by
  refine zk_Cr.of (K := zm_304) rfl rfl rfl ?_
  show zk_T zk_mt zk_ex Ls xs zm_304 (0, [(0, .ref 69)], []) (zH u w t) _
  refine zk_T.adv 2 (f' := (4, [(0, .ref 69)], [.int (u 68 13)])) (h' := zH u w t) rfl ?_
  rw [show (u 68 13) = 1 from hf]
  refine zk_T.br (f1 := (8, [(0, .ref 69)], [])) (f2 := (7, [(0, .ref 69)], [])) rfl (fun c1 => absurd (of_decide_eq_true c1) (by decide)) (fun c1 => ?_)
  exact zk_T.rt rfl rfl (by rfl)
/-- BasketKeepModel.unsureLine -/
theorem zm_unsureLine_x (hf : u 68 13 = 1) : zk_Cr zk_mt zk_ex Ls xs 302 [.ref 69] (zH u w t) (none, zH u w t) := by
  refine zk_Cr.of (K := zm_302) rfl rfl rfl ?_
  show zk_T zk_mt zk_ex Ls xs zm_302 (0, [(0, .ref 69)], []) (zH u w t) _
  refine zk_T.adv 2 (f' := (4, [(0, .ref 69)], [.int (u 68 13)])) (h' := zH u w t) rfl ?_
  rw [show (u 68 13) = 1 from hf]
  refine zk_T.br (f1 := (8, [(0, .ref 69)], [])) (f2 := (7, [(0, .ref 69)], [])) rfl (fun c1 => absurd (of_decide_eq_true c1) (by decide)) (fun c1 => ?_)
  exact zk_T.rt rfl rfl (by rfl)
/-- BasketKeepModel.inLine -/
theorem zm_inLine_x (hf : u 68 13 = 1) : zk_Cr zk_mt zk_ex Ls xs 300 [.ref 69] (zH u w t) (none, zH u w t) := by
  refine zk_Cr.of (K := zm_300) rfl rfl rfl ?_
  show zk_T zk_mt zk_ex Ls xs zm_300 (0, [(0, .ref 69)], []) (zH u w t) _
  refine zk_T.adv 1 (f' := (1, [(0, .ref 69)], [.ref 69])) (h' := zH u w t) rfl ?_
  refine zk_T.cl (v := some (.int 0)) (h' := zH u w t) rfl (zm_goodHere_x (u := u) hf) ?_
  show zk_T zk_mt zk_ex Ls xs zm_300 (4, [(0, .ref 69)], [.int 0]) (zH u w t) _
  refine zk_T.adv 3 (f' := (9, [(0, .ref 69), (1, .int 0)], [.int (u 68 13)])) (h' := zH u w t) rfl ?_
  rw [show (u 68 13) = 1 from hf]
  refine zk_T.br (f1 := (12, [(0, .ref 69), (1, .int 0)], [])) (f2 := (33, [(0, .ref 69), (1, .int 0)], [])) rfl (fun c1 => absurd (of_decide_eq_true c1) (by decide)) (fun c1 => ?_)
  refine zk_T.adv 1 (f' := (34, [(0, .ref 69), (1, .int 0)], [.ref 69])) (h' := zH u w t) rfl ?_
  refine zk_T.cl (v := none) (h' := zH u w t) rfl (zm_pass_x (u := u) hf) ?_
  show zk_T zk_mt zk_ex Ls xs zm_300 (37, [(0, .ref 69), (1, .int 0)], []) (zH u w t) _
  refine zk_T.adv 1 (f' := (38, [(0, .ref 69), (1, .int 0)], [.ref 69])) (h' := zH u w t) rfl ?_
  refine zk_T.cl (v := some (.int 0)) (h' := zH u w t) rfl (zm_makerHere_x (u := u) hf) ?_
  show zk_T zk_mt zk_ex Ls xs zm_300 (41, [(0, .ref 69), (1, .int 0)], [.int 0]) (zH u w t) _
  refine zk_T.adv 5 (f' := (46, [(0, .ref 69), (1, .int 0), (2, .int 0), (3, .int 0)], [.int 4, .int 0])) (h' := zH u w t) rfl ?_
  refine zk_T.br (f1 := (86, [(0, .ref 69), (1, .int 0), (2, .int 0), (3, .int 0)], [])) (f2 := (49, [(0, .ref 69), (1, .int 0), (2, .int 0), (3, .int 0)], [])) rfl (fun c2 => absurd (of_decide_eq_true c2) (by decide)) (fun c2 => ?_)
  refine zk_T.adv 2 (f' := (53, [(0, .ref 69), (1, .int 0), (2, .int 0), (3, .int 0)], [.int (u 68 13)])) (h' := zH u w t) rfl ?_
  rw [show (u 68 13) = 1 from hf]
  refine zk_T.br (f1 := (56, [(0, .ref 69), (1, .int 0), (2, .int 0), (3, .int 0)], [])) (f2 := (80, [(0, .ref 69), (1, .int 0), (2, .int 0), (3, .int 0)], [])) rfl (fun c3 => absurd (of_decide_eq_true c3) (by decide)) (fun c3 => ?_)
  refine zk_T.adv 4 (f' := (46, [(0, .ref 69), (1, .int 0), (2, .int 0), (3, .int 1)], [.int 4, .int 1])) (h' := zH u w t) rfl ?_
  refine zk_T.br (f1 := (86, [(0, .ref 69), (1, .int 0), (2, .int 0), (3, .int 1)], [])) (f2 := (49, [(0, .ref 69), (1, .int 0), (2, .int 0), (3, .int 1)], [])) rfl (fun c4 => absurd (of_decide_eq_true c4) (by decide)) (fun c4 => ?_)
  refine zk_T.adv 2 (f' := (53, [(0, .ref 69), (1, .int 0), (2, .int 0), (3, .int 1)], [.int (u 68 13)])) (h' := zH u w t) rfl ?_
  rw [show (u 68 13) = 1 from hf]
  refine zk_T.br (f1 := (56, [(0, .ref 69), (1, .int 0), (2, .int 0), (3, .int 1)], [])) (f2 := (80, [(0, .ref 69), (1, .int 0), (2, .int 0), (3, .int 1)], [])) rfl (fun c5 => absurd (of_decide_eq_true c5) (by decide)) (fun c5 => ?_)
  refine zk_T.adv 4 (f' := (46, [(0, .ref 69), (1, .int 0), (2, .int 0), (3, .int 2)], [.int 4, .int 2])) (h' := zH u w t) rfl ?_
  refine zk_T.br (f1 := (86, [(0, .ref 69), (1, .int 0), (2, .int 0), (3, .int 2)], [])) (f2 := (49, [(0, .ref 69), (1, .int 0), (2, .int 0), (3, .int 2)], [])) rfl (fun c6 => absurd (of_decide_eq_true c6) (by decide)) (fun c6 => ?_)
  refine zk_T.adv 2 (f' := (53, [(0, .ref 69), (1, .int 0), (2, .int 0), (3, .int 2)], [.int (u 68 13)])) (h' := zH u w t) rfl ?_
  rw [show (u 68 13) = 1 from hf]
  refine zk_T.br (f1 := (56, [(0, .ref 69), (1, .int 0), (2, .int 0), (3, .int 2)], [])) (f2 := (80, [(0, .ref 69), (1, .int 0), (2, .int 0), (3, .int 2)], [])) rfl (fun c7 => absurd (of_decide_eq_true c7) (by decide)) (fun c7 => ?_)
  refine zk_T.adv 4 (f' := (46, [(0, .ref 69), (1, .int 0), (2, .int 0), (3, .int 3)], [.int 4, .int 3])) (h' := zH u w t) rfl ?_
  refine zk_T.br (f1 := (86, [(0, .ref 69), (1, .int 0), (2, .int 0), (3, .int 3)], [])) (f2 := (49, [(0, .ref 69), (1, .int 0), (2, .int 0), (3, .int 3)], [])) rfl (fun c8 => absurd (of_decide_eq_true c8) (by decide)) (fun c8 => ?_)
  refine zk_T.adv 2 (f' := (53, [(0, .ref 69), (1, .int 0), (2, .int 0), (3, .int 3)], [.int (u 68 13)])) (h' := zH u w t) rfl ?_
  rw [show (u 68 13) = 1 from hf]
  refine zk_T.br (f1 := (56, [(0, .ref 69), (1, .int 0), (2, .int 0), (3, .int 3)], [])) (f2 := (80, [(0, .ref 69), (1, .int 0), (2, .int 0), (3, .int 3)], [])) rfl (fun c9 => absurd (of_decide_eq_true c9) (by decide)) (fun c9 => ?_)
  refine zk_T.adv 4 (f' := (46, [(0, .ref 69), (1, .int 0), (2, .int 0), (3, .int 4)], [.int 4, .int 4])) (h' := zH u w t) rfl ?_
  refine zk_T.br (f1 := (86, [(0, .ref 69), (1, .int 0), (2, .int 0), (3, .int 4)], [])) (f2 := (49, [(0, .ref 69), (1, .int 0), (2, .int 0), (3, .int 4)], [])) rfl (fun c10 => ?_) (fun c10 => absurd (by decide) (of_decide_eq_false c10))
  refine zk_T.adv 1 (f' := (87, [(0, .ref 69), (1, .int 0), (2, .int 0), (3, .int 4)], [.ref 69])) (h' := zH u w t) rfl ?_
  refine zk_T.cl (v := none) (h' := zH u w t) rfl (zm_pass_x (u := u) hf) ?_
  show zk_T zk_mt zk_ex Ls xs zm_300 (90, [(0, .ref 69), (1, .int 0), (2, .int 0), (3, .int 4)], []) (zH u w t) _
  refine zk_T.adv 2 (f' := (94, [(0, .ref 69), (1, .int 0), (2, .int 0), (3, .int 4)], [.int (u 68 13)])) (h' := zH u w t) rfl ?_
  rw [show (u 68 13) = 1 from hf]
  refine zk_T.br (f1 := (97, [(0, .ref 69), (1, .int 0), (2, .int 0), (3, .int 4)], [])) (f2 := (109, [(0, .ref 69), (1, .int 0), (2, .int 0), (3, .int 4)], [])) rfl (fun c11 => absurd (of_decide_eq_true c11) (by decide)) (fun c11 => ?_)
  exact zk_T.rt rfl rfl (by rfl)
/-- BasketKeepModel.befellLine -/
theorem zm_befellLine_x (hf : u 68 13 = 1) : zk_Cr zk_mt zk_ex Ls xs 297 [.ref 69] (zH u w t) (none, zH u w t) := by
  refine zk_Cr.of (K := zm_297) rfl rfl rfl ?_
  show zk_T zk_mt zk_ex Ls xs zm_297 (0, [(0, .ref 69)], []) (zH u w t) _
  refine zk_T.adv 1 (f' := (1, [(0, .ref 69)], [.ref 69])) (h' := zH u w t) rfl ?_
  refine zk_T.cl (v := some (.int 0)) (h' := zH u w t) rfl (zm_goodHere_x (u := u) hf) ?_
  show zk_T zk_mt zk_ex Ls xs zm_297 (4, [(0, .ref 69)], [.int 0]) (zH u w t) _
  refine zk_T.adv 3 (f' := (9, [(0, .ref 69), (1, .int 0)], [.int (u 68 13)])) (h' := zH u w t) rfl ?_
  rw [show (u 68 13) = 1 from hf]
  refine zk_T.br (f1 := (12, [(0, .ref 69), (1, .int 0)], [])) (f2 := (33, [(0, .ref 69), (1, .int 0)], [])) rfl (fun c1 => absurd (of_decide_eq_true c1) (by decide)) (fun c1 => ?_)
  refine zk_T.adv 1 (f' := (34, [(0, .ref 69), (1, .int 0)], [.ref 69])) (h' := zH u w t) rfl ?_
  refine zk_T.cl (v := none) (h' := zH u w t) rfl (zm_pass_x (u := u) hf) ?_
  show zk_T zk_mt zk_ex Ls xs zm_297 (37, [(0, .ref 69), (1, .int 0)], []) (zH u w t) _
  refine zk_T.adv 4 (f' := (44, [(0, .ref 69), (1, .int 0)], [.int 40, .int 1, .retAddr 36, .ref 69])) (h' := zH u w t) rfl ?_
  refine zk_T.cl (v := some (.int 1)) (h' := zH u w t) rfl (zm_after_x (u := u) 36 1 40 hf) ?_
  show zk_T zk_mt zk_ex Ls xs zm_297 (47, [(0, .ref 69), (1, .int 0)], [.int 1]) (zH u w t) _
  refine zk_T.adv 3 (f' := (52, [(0, .ref 69), (1, .int 0), (2, .int 1)], [.int (u 68 13)])) (h' := zH u w t) rfl ?_
  rw [show (u 68 13) = 1 from hf]
  refine zk_T.br (f1 := (56, [(0, .ref 69), (1, .int 0), (2, .int 1)], [])) (f2 := (55, [(0, .ref 69), (1, .int 0), (2, .int 1)], [])) rfl (fun c2 => absurd (of_decide_eq_true c2) (by decide)) (fun c2 => ?_)
  exact zk_T.rt rfl rfl (by rfl)
end Z63
