/-! the reference's reading steps, the larger -/
def zMh (v v' : Nat → Nat → Int32) : Prop := (∀ r, r ≠ 68 → r ≠ 70 → r ≠ 72 → v' r = v r) ∧ ∀ j, j < 4 ∨ 8 < j → j ≠ 9 → j ≠ 10 → j ≠ 13 → v' 68 j = v 68 j
theorem zMg.h {u v : Nat → Nat → Int32} (h : zMg u v) : zMh u v := ⟨fun r a b _ => h.1 r a b, h.2⟩
def zsv : Nat ⊕ (Int32 × Nat) → Int32
  | .inl x => nI x
  | .inr _ => 0
def zsv2 (lo : Nat) : (Nat × Nat) ⊕ (Int32 × Nat) → Int32
  | .inl (_, x) => nI x
  | .inr _ => nI lo
def zR2 {α : Type} (tn : Nat → Nat) (ts : Nat → Int32) (tp : Nat → Nat) (tv : Nat → Int64) (E : Nat) (B : Nat → Int32) (res : (Nat × α) ⊕ (Int32 × Nat)) (u : Nat → Nat → Int32) : Prop := match res with
  | .inl (k, _) => zMs tn ts tp tv E B k u
  | .inr (f, p) => zMx f p u
section Z61
variable {Ls : Nat} {xs : Nat → Int32} {v u : Nat → Nat → Int32} {w : Nat → Nat → Int64} {t : zk_H}
variable {tn : Nat → Nat} {ts : Nat → Int32} {tp : Nat → Nat} {tv : Nat → Int64} {E : Nat} {B : Nat → Int32}
/-- BasketKeepModel.newName -/
theorem zm_newName_x (y : Int32) (hf : u 68 13 = 1) : zk_Cr zk_mt zk_ex Ls xs 270 [.ref 69, .int y] (zH u w t) (none, zH u w t) := by
  refine zk_Cr.of (K := zm_270) rfl rfl rfl ?_
  show zk_T zk_mt zk_ex Ls xs zm_270 (0, [(0, .ref 69), (1, .int y)], []) (zH u w t) _
  refine zk_T.adv 2 (f' := (4, [(0, .ref 69), (1, .int y)], [.int (u 68 13)])) (h' := zH u w t) rfl ?_
  rw [show (u 68 13) = 1 from hf]
  refine zk_T.br (f1 := (8, [(0, .ref 69), (1, .int y)], [])) (f2 := (7, [(0, .ref 69), (1, .int y)], [])) rfl (fun c1 => absurd (of_decide_eq_true c1) (by decide)) (fun c1 => ?_)
  exact zk_T.rt rfl rfl (by rfl)
def zl_nnG (lt : Nat → Int32) (sl : Nat) (j : Nat) (s : (Nat → Int32)) : (Nat → Int32) := match s with
  | f => upd f ((70 + (8 * sl)) + j) (lt j)
theorem zl_nn (sl L : Nat) (hs17 : sl < 17) (hL8 : L ≤ 8) : ∀ (s : (Nat → Int32)) (q : Option Value × zk_H), zk_T zk_mt zk_ex Ls xs zm_270 ((fun (s : (Nat → Int32)) => ((79, [(0, .ref 69), (1, .int (nI sl)), (2, .int (nI (0 + L)))], []) : zk_F)) (zf (zl_nnG (u 70) sl) L 0 s)) ((fun (s : (Nat → Int32)) => zH (zb (zb u 68 (upd (u 68) 8 (nI L))) 72 s) w t) (zf (zl_nnG (u 70) sl) L 0 s)) q → zk_T zk_mt zk_ex Ls xs zm_270 (45, [(0, .ref 69), (1, .int (nI sl)), (2, .int (nI 0))], []) (zH (zb (zb u 68 (upd (u 68) 8 (nI L))) 72 s) w t) q := by
  intro s q hk
  refine zk_forK (M := zm_270) (fun j (s : (Nat → Int32)) => (45, [(0, .ref 69), (1, .int (nI sl)), (2, .int (nI j))], [])) (fun _ (s : (Nat → Int32)) => zH (zb (zb u 68 (upd (u 68) 8 (nI L))) 72 s) w t) (zl_nnG (u 70) sl) (fun _ _ => True) (fun (s : (Nat → Int32)) => (79, [(0, .ref 69), (1, .int (nI sl)), (2, .int (nI (0 + L)))], [])) (fun (s : (Nat → Int32)) => zH (zb (zb u 68 (upd (u 68) 8 (nI L))) 72 s) w t) (L) 0 s (fun _ _ _ _ _ => trivial) (fun j s hj1 hj2 hp q hk => ?_) (fun s hp q hk => ?_) ?_ q hk
  · have hz := True.intro
    obtain ⟨f, rfl⟩ : ∃ z, z = s := ⟨_, rfl⟩
    show zk_T zk_mt zk_ex Ls xs zm_270 (45, [(0, .ref 69), (1, .int (nI sl)), (2, .int (nI j))], []) (zH (zb (zb u 68 (upd (u 68) 8 (nI L))) 72 f) w t) q
    refine zk_T.adv 3 (f' := (50, [(0, .ref 69), (1, .int (nI sl)), (2, .int (nI j))], [.int (nI L), .int (nI j)])) (h' := zH (zb (zb u 68 (upd (u 68) 8 (nI L))) 72 f) w t) rfl ?_
    refine zk_T.br (f1 := (79, [(0, .ref 69), (1, .int (nI sl)), (2, .int (nI j))], [])) (f2 := (53, [(0, .ref 69), (1, .int (nI sl)), (2, .int (nI j))], [])) rfl (fun c1 => absurd (of_decide_eq_true c1) (nI_ge (show j < L by omega) (by omega))) (fun c1 => ?_)
    refine zk_T.adv 6 (f' := (63, [(0, .ref 69), (1, .int (nI sl)), (2, .int (nI j))], [.int (8 * (nI sl)), .int 70, .ref 73])) (h' := zH (zb (zb u 68 (upd (u 68) 8 (nI L))) 72 f) w t) rfl ?_
    rw [show 8 * (nI sl) = nI (8 * sl) from pk_mul 8 sl]
    refine zk_T.adv 1 (f' := (64, [(0, .ref 69), (1, .int (nI sl)), (2, .int (nI j))], [.int (70 + (nI (8 * sl))), .ref 73])) (h' := zH (zb (zb u 68 (upd (u 68) 8 (nI L))) 72 f) w t) rfl ?_
    rw [show 70 + (nI (8 * sl)) = nI (70 + (8 * sl)) from nI_add 70 (8 * sl)]
    refine zk_T.adv 2 (f' := (66, [(0, .ref 69), (1, .int (nI sl)), (2, .int (nI j))], [.int ((nI (70 + (8 * sl))) + (nI j)), .ref 73])) (h' := zH (zb (zb u 68 (upd (u 68) 8 (nI L))) 72 f) w t) rfl ?_
    rw [show (nI (70 + (8 * sl))) + (nI j) = nI ((70 + (8 * sl)) + j) from nI_add (70 + (8 * sl)) j]
    refine zk_T.adv 3 (f' := (71, [(0, .ref 69), (1, .int (nI sl)), (2, .int (nI j))], [.int (nI j), .ref 71, .int (nI ((70 + (8 * sl)) + j)), .ref 73])) (h' := zH (zb (zb u 68 (upd (u 68) 8 (nI L))) 72 f) w t) rfl ?_
    refine zk_T.ob (f' := (72, [(0, .ref 69), (1, .int (nI sl)), (2, .int (nI j))], [.int (u 70 (nI j).toNatClampNeg), .int (nI ((70 + (8 * sl)) + j)), .ref 73])) (h' := zH (zb (zb u 68 (upd (u 68) 8 (nI L))) 72 f) w t) rfl (by first | exact zk_inN (by omega) (by decide) | decide) ?_
    rw [nI_clamp (show j < 2 ^ 31 by omega)]
    refine zk_T.ob (f' := (73, [(0, .ref 69), (1, .int (nI sl)), (2, .int (nI j))], [])) (h' := zH (zb (zb u 68 (upd (u 68) 8 (nI L))) 72 (upd f (nI ((70 + (8 * sl)) + j)).toNatClampNeg (u 70 j))) w t) rfl (by first | exact zk_inN (by omega) (by decide) | decide) ?_
    rw [nI_clamp (show ((70 + (8 * sl)) + j) < 2 ^ 31 by omega)]
    refine zk_T.adv 2 (f' := (45, [(0, .ref 69), (1, .int (nI sl)), (2, .int ((nI j) + 1))], [])) (h' := zH (zb (zb u 68 (upd (u 68) 8 (nI L))) 72 (upd f ((70 + (8 * sl)) + j) (u 70 j))) w t) rfl ?_
    rw [nI_1]
    simp only [zl_nnG] at hk
    exact hk
  · have hz := True.intro
    obtain ⟨f, rfl⟩ : ∃ z, z = s := ⟨_, rfl⟩
    show zk_T zk_mt zk_ex Ls xs zm_270 (45, [(0, .ref 69), (1, .int (nI sl)), (2, .int (nI (0 + L)))], []) (zH (zb (zb u 68 (upd (u 68) 8 (nI L))) 72 f) w t) q
    refine zk_T.adv 3 (f' := (50, [(0, .ref 69), (1, .int (nI sl)), (2, .int (nI (0 + L)))], [.int (nI L), .int (nI (0 + L))])) (h' := zH (zb (zb u 68 (upd (u 68) 8 (nI L))) 72 f) w t) rfl ?_
    refine zk_T.br (f1 := (79, [(0, .ref 69), (1, .int (nI sl)), (2, .int (nI (0 + L)))], [])) (f2 := (53, [(0, .ref 69), (1, .int (nI sl)), (2, .int (nI (0 + L)))], [])) rfl (fun c1 => ?_) (fun c1 => absurd (by rw [Nat.zero_add]; exact nI_le (Nat.le_refl _) (by omega)) (of_decide_eq_false c1))
    exact hk
  · exact trivial
theorem zl_nnF (lt : Nat → Int32) (s : Nat) : ∀ (n i : Nat) (f : Nat → Int32) (x : Nat), zf (zl_nnG lt s) n i f x = if 70 + 8 * s + i ≤ x ∧ x < 70 + 8 * s + i + n then lt (x - (70 + 8 * s)) else f x := by
  intro n
  induction n with
  | zero => intro i f x; rw [if_neg (by omega)]; rfl
  | succ n ih =>
    intro i f x
    show zf (zl_nnG lt s) n (i + 1) (upd f (70 + 8 * s + i) (lt i)) x = _
    rw [ih]
    by_cases h1 : 70 + 8 * s + (i + 1) ≤ x ∧ x < 70 + 8 * s + (i + 1) + n
    · rw [if_pos h1, if_pos (by omega)]
    · rw [if_neg h1]
      by_cases h2 : x = 70 + 8 * s + i
      · rw [if_pos (by omega), h2, pk_us, show 70 + 8 * s + i - (70 + 8 * s) = i by omega]
      · rw [if_neg (by omega), pk_un h2]
theorem zRN_new {S : Nat → Int64} {fr lt : Nat → Int32} {s L : Nat} {x : Int64} (hN : zRN S fr) (hs : s < 17) (h1 : 1 ≤ L) (h8 : L ≤ 8) (hlt : ∀ i, i < L → zLt (lt i)) (hx : x = zpk L lt) : zRN (vp_updL S s x) (upd (zf (zl_nnG lt s) L 0 fr) (53 + s) (nI L)) := by
  intro s' hs'
  by_cases hss : s' = s
  · subst hss
    refine Or.inr ⟨L, ⟨h1, h8⟩, pk_us, fun i hi => ?_, ?_⟩
    · show zLt (upd _ (53 + s') (nI L) (70 + 8 * s' + i))
      rw [pk_un (show 70 + 8 * s' + i ≠ 53 + s' by omega), zl_nnF, if_pos (by omega), show 70 + 8 * s' + i - (70 + 8 * s') = i by omega]
      exact hlt i hi
    · rw [zL_us, hx]
      refine zpk_eq L (fun i hi => ?_)
      show lt i = upd _ (53 + s') (nI L) (70 + 8 * s' + i)
      rw [pk_un (show 70 + 8 * s' + i ≠ 53 + s' by omega), zl_nnF, if_pos (by omega), show 70 + 8 * s' + i - (70 + 8 * s') = i by omega]
  · rw [zL_un hss, pk_un (show 53 + s' ≠ 53 + s by omega), zl_nnF, if_neg (by omega)]
    rcases hN s' hs' with h | ⟨L', ⟨l1, l8⟩, hz, hg, hv⟩
    · exact Or.inl h
    · have he : ∀ i, i < L' → upd (zf (zl_nnG lt s) L 0 fr) (53 + s) (nI L) (70 + 8 * s' + i) = fr (70 + 8 * s' + i) := by
        intro i hi
        rw [pk_un (show 70 + 8 * s' + i ≠ 53 + s by omega), zl_nnF, if_neg (by omega)]
      refine Or.inr ⟨L', ⟨l1, l8⟩, hz, fun i hi => ?_, ?_⟩
      · show zLt (upd _ _ _ _)
        rw [he i hi]; exact hg i hi
      · rw [hv]
        exact zpk_eq L' (fun i hi => (he i hi).symm)
theorem zl_nnx (s L : Nat) (hs17 : s < 17) (hL8 : L ≤ 8) (hsz : u 68 8 = nI L) (Q : Option Value × zk_H → Prop) (hq : zx zk_mt zk_ex Ls xs zm_270 (79, [(0, .ref 69), (1, .int (nI s)), (2, .int (nI (0 + L)))], []) (zH (zb u 72 (zf (zl_nnG (u 70) s) L 0 (u 72))) w t) Q) : zx zk_mt zk_ex Ls xs zm_270 (45, [(0, .ref 69), (1, .int (nI s)), (2, .int 0)], []) (zH u w t) Q := by
  obtain ⟨q, h1, h2⟩ := hq
  refine ⟨q, ?_, h2⟩
  have e := zl_nn (u := u) (w := w) (t := t) (Ls := Ls) (xs := xs) s L hs17 hL8 (u 72) q
  rw [zu_same hsz, zb_same] at e
  have e2 := e h1
  rw [zb_same] at e2
  exact e2
/-- BasketKeepModel.newName -/
theorem zm_newName (hM : zk_MA Ls xs tn ts tp tv E B) {s k : Nat} {S : Nat → Int64} (hs17 : s < 17) (hs : zMs tn ts tp tv E B k u) (hN : zRN S (u 72)) : ∃ u', zk_Cr zk_mt zk_ex Ls xs 270 [.ref 69, .int (nI s)] (zH u w t) (none, zH u' w t) ∧ zMh u u' ∧ match zp_new tn ts tp tv s S k with
    | .inl (k1, S1) => zMs tn ts tp tv E B k1 u' ∧ zRN S1 (u' 72) ∧ ∀ i, i < 53 → u' 72 i = u 72 i
    | .inr (f, p) => zMx f p u' := by
  have main : ∃ q, zk_Cr zk_mt zk_ex Ls xs 270 [.ref 69, .int (nI s)] (zH u w t) q ∧ ∃ u', q = (none, zH u' w t) ∧ zMh u u' ∧ match zp_new tn ts tp tv s S k with
    | .inl (k1, S1) => zMs tn ts tp tv E B k1 u' ∧ zRN S1 (u' 72) ∧ ∀ i, i < 53 → u' 72 i = u 72 i
    | .inr (f, p) => zMx f p u' := by
    refine zx.of (K := zm_270) rfl rfl rfl ?_
    show zx zk_mt zk_ex Ls xs zm_270 (0, [(0, .ref 69), (1, .int (nI s))], []) (zH u w t) _
    obtain ⟨u1, hq1, hg1, ha1, hb1⟩ := zm_mustName (Ls := Ls) (xs := xs) (w := w) (t := t) hs
    by_cases hz : zr_isName (ts k) zk_lw (tv k) = 0
    ·
      refine zx.adv 2 (f' := (4, [(0, .ref 69), (1, .int (nI s))], [.int (u 68 13)])) (h' := zH u w t) rfl ?_
      rw [show (u 68 13) = 0 from hs.2.2]
      refine zx.br (f1 := (8, [(0, .ref 69), (1, .int (nI s))], [])) (f2 := (7, [(0, .ref 69), (1, .int (nI s))], [])) rfl (fun c1 => ?_) (fun c1 => absurd (by decide) (of_decide_eq_false c1))
      refine zx.adv 1 (f' := (9, [(0, .ref 69), (1, .int (nI s))], [.ref 69])) (h' := zH u w t) rfl ?_
      refine zx.cl (v := none) (h' := zH u1 w t) rfl hq1 ?_
      show zx zk_mt zk_ex Ls xs zm_270 (12, [(0, .ref 69), (1, .int (nI s))], []) (zH u1 w t) _
      refine zx.adv 2 (f' := (16, [(0, .ref 69), (1, .int (nI s))], [.int (u1 68 13)])) (h' := zH u1 w t) rfl ?_
      rw [show (u1 68 13) = 1 from (ha1 hz).1]
      refine zx.br (f1 := (19, [(0, .ref 69), (1, .int (nI s))], [])) (f2 := (35, [(0, .ref 69), (1, .int (nI s))], [])) rfl (fun c2 => absurd (of_decide_eq_true c2) (by decide)) (fun c2 => ?_)
      refine zx.adv 2 (f' := (39, [(0, .ref 69), (1, .int (nI s))], [.int (u1 68 13)])) (h' := zH u1 w t) rfl ?_
      rw [show (u1 68 13) = 1 from (ha1 hz).1]
      refine zx.br (f1 := (43, [(0, .ref 69), (1, .int (nI s))], [])) (f2 := (42, [(0, .ref 69), (1, .int (nI s))], [])) rfl (fun c3 => absurd (of_decide_eq_true c3) (by decide)) (fun c3 => ?_)
      exact zx.rt rfl rfl ⟨u1, rfl, hg1.h, by rw [show zp_new tn ts tp tv s S k = .inr (1, tp k) from if_pos hz]; exact ha1 hz⟩
    · rw [hb1 hz] at hq1
      have h2 := zr_isName2 hz
      cases hf : zp_find S (tv k) with
      | some s' =>
        have hs' := (zp_find_some hf).1
        have hnew : zp_new tn ts tp tv s S k = .inr (3, tp k) := by
          unfold zp_new
          rw [if_neg hz, hf]
        refine zx.adv 2 (f' := (4, [(0, .ref 69), (1, .int (nI s))], [.int (u 68 13)])) (h' := zH u w t) rfl ?_
        rw [show (u 68 13) = 0 from hs.2.2]
        refine zx.br (f1 := (8, [(0, .ref 69), (1, .int (nI s))], [])) (f2 := (7, [(0, .ref 69), (1, .int (nI s))], [])) rfl (fun c1 => ?_) (fun c1 => absurd (by decide) (of_decide_eq_false c1))
        refine zx.adv 1 (f' := (9, [(0, .ref 69), (1, .int (nI s))], [.ref 69])) (h' := zH u w t) rfl ?_
        refine zx.cl (v := none) (h' := zH u w t) rfl hq1 ?_
        show zx zk_mt zk_ex Ls xs zm_270 (12, [(0, .ref 69), (1, .int (nI s))], []) (zH u w t) _
        refine zx.adv 2 (f' := (16, [(0, .ref 69), (1, .int (nI s))], [.int (u 68 13)])) (h' := zH u w t) rfl ?_
        rw [show (u 68 13) = 0 from hs.2.2]
        refine zx.br (f1 := (19, [(0, .ref 69), (1, .int (nI s))], [])) (f2 := (35, [(0, .ref 69), (1, .int (nI s))], [])) rfl (fun c2 => ?_) (fun c2 => absurd (by decide) (of_decide_eq_false c2))
        refine zx.adv 1 (f' := (20, [(0, .ref 69), (1, .int (nI s))], [.ref 69])) (h' := zH u w t) rfl ?_
        refine zx.cl (v := some (.int (nI s'))) (h' := zH u w t) rfl (by have ee := zm_find (Ls := Ls) (xs := xs) (w := w) (t := t) hs h2 hN; rw [hf] at ee; exact ee) ?_
        show zx zk_mt zk_ex Ls xs zm_270 (23, [(0, .ref 69), (1, .int (nI s))], [.int (nI s')]) (zH u w t) _
        refine zx.br (f1 := (35, [(0, .ref 69), (1, .int (nI s))], [])) (f2 := (26, [(0, .ref 69), (1, .int (nI s))], [])) rfl (fun c3 => absurd (of_decide_eq_true c3) (nI_pos (by omega))) (fun c3 => ?_)
        refine zx.adv 4 (f' := (32, [(0, .ref 69), (1, .int (nI s))], [.int (u 68 4), .int 3, .ref 69])) (h' := zH u w t) rfl ?_
        refine zx.cl (v := none) (h' := zH (zb u 68 (upd (upd (upd (u 68) 9 3) 10 (u 68 4)) 13 1)) w t) rfl (zs_mwrong_0 (v := u) (w := w) hs.2.2 3 (u 68 4)) ?_
        show zx zk_mt zk_ex Ls xs zm_270 (35, [(0, .ref 69), (1, .int (nI s))], []) (zH (zb u 68 (upd (upd (upd (u 68) 9 3) 10 (u 68 4)) 13 1)) w t) _
        refine zx.adv 2 (f' := (39, [(0, .ref 69), (1, .int (nI s))], [.int 1])) (h' := zH (zb u 68 (upd (upd (upd (u 68) 9 3) 10 (u 68 4)) 13 1)) w t) rfl ?_
        refine zx.br (f1 := (43, [(0, .ref 69), (1, .int (nI s))], [])) (f2 := (42, [(0, .ref 69), (1, .int (nI s))], [])) rfl (fun c4 => absurd (of_decide_eq_true c4) (by decide)) (fun c4 => ?_)
        exact zx.rt rfl rfl ⟨_, rfl, zMg.wrong.h, by rw [hnew]; exact zMx.wrong hs⟩
      | none =>
        have hnew : zp_new tn ts tp tv s S k = .inl (tn k, vp_updL S s (tv k)) := by
          unfold zp_new
          rw [if_neg hz, hf]
        obtain ⟨L, ⟨l1, l8⟩, hsz, hlt, hv⟩ := hs.1.2.2.2.2.2.2.1 h2
        obtain ⟨u2, hq2, hg2, hs2⟩ := zm_next (w := w) (t := t) (u := zb u 72 (upd (zf (zl_nnG (u 70) s) L 0 (u 72)) (53 + s) (nI L))) hM hs
        refine zx.adv 2 (f' := (4, [(0, .ref 69), (1, .int (nI s))], [.int (u 68 13)])) (h' := zH u w t) rfl ?_
        rw [show (u 68 13) = 0 from hs.2.2]
        refine zx.br (f1 := (8, [(0, .ref 69), (1, .int (nI s))], [])) (f2 := (7, [(0, .ref 69), (1, .int (nI s))], [])) rfl (fun c1 => ?_) (fun c1 => absurd (by decide) (of_decide_eq_false c1))
        refine zx.adv 1 (f' := (9, [(0, .ref 69), (1, .int (nI s))], [.ref 69])) (h' := zH u w t) rfl ?_
        refine zx.cl (v := none) (h' := zH u w t) rfl hq1 ?_
        show zx zk_mt zk_ex Ls xs zm_270 (12, [(0, .ref 69), (1, .int (nI s))], []) (zH u w t) _
        refine zx.adv 2 (f' := (16, [(0, .ref 69), (1, .int (nI s))], [.int (u 68 13)])) (h' := zH u w t) rfl ?_
        rw [show (u 68 13) = 0 from hs.2.2]
        refine zx.br (f1 := (19, [(0, .ref 69), (1, .int (nI s))], [])) (f2 := (35, [(0, .ref 69), (1, .int (nI s))], [])) rfl (fun c2 => ?_) (fun c2 => absurd (by decide) (of_decide_eq_false c2))
        refine zx.adv 1 (f' := (20, [(0, .ref 69), (1, .int (nI s))], [.ref 69])) (h' := zH u w t) rfl ?_
        refine zx.cl (v := some (.int (-1))) (h' := zH u w t) rfl (by have ee := zm_find (Ls := Ls) (xs := xs) (w := w) (t := t) hs h2 hN; rw [hf] at ee; exact ee) ?_
        show zx zk_mt zk_ex Ls xs zm_270 (23, [(0, .ref 69), (1, .int (nI s))], [.int (-1)]) (zH u w t) _
        refine zx.br (f1 := (35, [(0, .ref 69), (1, .int (nI s))], [])) (f2 := (26, [(0, .ref 69), (1, .int (nI s))], [])) rfl (fun c3 => ?_) (fun c3 => absurd (by decide) (of_decide_eq_false c3))
        refine zx.adv 2 (f' := (39, [(0, .ref 69), (1, .int (nI s))], [.int (u 68 13)])) (h' := zH u w t) rfl ?_
        rw [show (u 68 13) = 0 from hs.2.2]
        refine zx.br (f1 := (43, [(0, .ref 69), (1, .int (nI s))], [])) (f2 := (42, [(0, .ref 69), (1, .int (nI s))], [])) rfl (fun c4 => ?_) (fun c4 => absurd (by decide) (of_decide_eq_false c4))
        refine zx.adv 2 (f' := (45, [(0, .ref 69), (1, .int (nI s)), (2, .int 0)], [])) (h' := zH u w t) rfl ?_
        refine zl_nnx s L hs17 l8 hsz _ ?_
        show zx zk_mt zk_ex Ls xs zm_270 (79, [(0, .ref 69), (1, .int (nI s)), (2, .int (nI (0 + L)))], []) (zH (zb u 72 (zf (zl_nnG (u 70) s) L 0 (u 72))) w t) _
        refine zx.adv 5 (f' := (87, [(0, .ref 69), (1, .int (nI s)), (2, .int (nI (0 + L)))], [.int (53 + (nI s)), .ref 73])) (h' := zH (zb u 72 (zf (zl_nnG (u 70) s) L 0 (u 72))) w t) rfl ?_
        rw [show 53 + (nI s) = nI (53 + s) from nI_add 53 s]
        refine zx.adv 2 (f' := (91, [(0, .ref 69), (1, .int (nI s)), (2, .int (nI (0 + L)))], [.int (u 68 8), .int (nI (53 + s)), .ref 73])) (h' := zH (zb u 72 (zf (zl_nnG (u 70) s) L 0 (u 72))) w t) rfl ?_
        rw [show (u 68 8) = nI L from hsz]
        refine zx.ob (f' := (92, [(0, .ref 69), (1, .int (nI s)), (2, .int (nI (0 + L)))], [])) (h' := zH (zb u 72 (upd (zf (zl_nnG (u 70) s) L 0 (u 72)) (nI (53 + s)).toNatClampNeg (nI L))) w t) rfl (by first | exact zk_inN (by omega) (by decide) | decide) ?_
        rw [nI_clamp (show (53 + s) < 2 ^ 31 by omega)]
        refine zx.adv 1 (f' := (93, [(0, .ref 69), (1, .int (nI s)), (2, .int (nI (0 + L)))], [.ref 69])) (h' := zH (zb u 72 (upd (zf (zl_nnG (u 70) s) L 0 (u 72)) (53 + s) (nI L))) w t) rfl ?_
        refine zx.cl (v := none) (h' := zH u2 w t) rfl hq2 ?_
        show zx zk_mt zk_ex Ls xs zm_270 (96, [(0, .ref 69), (1, .int (nI s)), (2, .int (nI (0 + L)))], []) (zH u2 w t) _
        exact zx.rt rfl rfl ⟨u2, rfl, ⟨fun r a b c => (hg2.1 r a b).trans (zb_un c), hg2.2⟩, by rw [hnew]; exact ⟨hs2, by rw [hg2.1 72 (by decide) (by decide)]; exact zRN_new hN hs17 l1 l8 hlt hv, fun i hi => by rw [hg2.1 72 (by decide) (by decide)]; exact (pk_un (show i ≠ 53 + s by omega)).trans ((zl_nnF _ _ _ _ _ _).trans (if_neg (by omega)))⟩⟩
  obtain ⟨q, h1, u', rfl, h2⟩ := main
  exact ⟨u', h1, h2⟩
/-- BasketKeepModel.named -/
theorem zm_named_x (y z : Int32) (hf : u 68 13 = 1) : zk_Cr zk_mt zk_ex Ls xs 269 [.ref 69, .int y, .int z] (zH u w t) (some (.int 0), zH u w t) := by
  refine zk_Cr.of (K := zm_269) rfl rfl rfl ?_
  show zk_T zk_mt zk_ex Ls xs zm_269 (0, [(0, .ref 69), (1, .int y), (2, .int z)], []) (zH u w t) _
  refine zk_T.adv 2 (f' := (4, [(0, .ref 69), (1, .int y), (2, .int z)], [.int (u 68 13)])) (h' := zH u w t) rfl ?_
  rw [show (u 68 13) = 1 from hf]
  refine zk_T.br (f1 := (9, [(0, .ref 69), (1, .int y), (2, .int z)], [])) (f2 := (7, [(0, .ref 69), (1, .int y), (2, .int z)], [])) rfl (fun c1 => absurd (of_decide_eq_true c1) (by decide)) (fun c1 => ?_)
  refine zk_T.adv 1 (f' := (8, [(0, .ref 69), (1, .int y), (2, .int z)], [.int 0])) (h' := zH u w t) rfl ?_
  exact zk_T.rt rfl rfl (by rfl)
theorem nI_sub2 {a b : Nat} (h : b ≤ a) : nI a - nI b = nI (a - b) := by
  have e : a = (a - b) + b := by omega
  rw [show nI a = nI ((a - b) + b) from congrArg nI e, ← nI_add, Int32.add_sub_cancel]
/-- BasketKeepModel.named -/
theorem zm_named {k lo h1 : Nat} {S : Nat → Int64} (hlo : lo < 20) (hh1 : h1 < 20) (hlh : lo ≤ h1) (hs : zMs tn ts tp tv E B k u) (hN : zRN S (u 72)) : ∃ u', zk_Cr zk_mt zk_ex Ls xs 269 [.ref 69, .int (nI lo), .int (nI h1)] (zH u w t) (some (.int (zsv (zp_see tn ts tp tv lo (h1 + 1) S k))), zH u' w t) ∧ zMg u u' ∧ match zp_see tn ts tp tv lo (h1 + 1) S k with
    | .inl _ => u' = u
    | .inr (f, p) => zMx f p u' := by
  have main : ∃ q, zk_Cr zk_mt zk_ex Ls xs 269 [.ref 69, .int (nI lo), .int (nI h1)] (zH u w t) q ∧ ∃ u', q = (some (.int (zsv (zp_see tn ts tp tv lo (h1 + 1) S k))), zH u' w t) ∧ zMg u u' ∧ match zp_see tn ts tp tv lo (h1 + 1) S k with
    | .inl _ => u' = u
    | .inr (f, p) => zMx f p u' := by
    refine zx.of (K := zm_269) rfl rfl rfl ?_
    show zx zk_mt zk_ex Ls xs zm_269 (0, [(0, .ref 69), (1, .int (nI lo)), (2, .int (nI h1))], []) (zH u w t) _
    obtain ⟨u1, hq1, hg1, ha1, hb1⟩ := zm_mustName (Ls := Ls) (xs := xs) (w := w) (t := t) hs
    by_cases hz : zr_isName (ts k) zk_lw (tv k) = 0
    · have hsee : zp_see tn ts tp tv lo (h1 + 1) S k = .inr (1, tp k) := if_pos hz
      refine zx.adv 2 (f' := (4, [(0, .ref 69), (1, .int (nI lo)), (2, .int (nI h1))], [.int (u 68 13)])) (h' := zH u w t) rfl ?_
      rw [show (u 68 13) = 0 from hs.2.2]
      refine zx.br (f1 := (9, [(0, .ref 69), (1, .int (nI lo)), (2, .int (nI h1))], [])) (f2 := (7, [(0, .ref 69), (1, .int (nI lo)), (2, .int (nI h1))], [])) rfl (fun c1 => ?_) (fun c1 => absurd (by decide) (of_decide_eq_false c1))
      refine zx.adv 1 (f' := (10, [(0, .ref 69), (1, .int (nI lo)), (2, .int (nI h1))], [.ref 69])) (h' := zH u w t) rfl ?_
      refine zx.cl (v := none) (h' := zH u1 w t) rfl hq1 ?_
      show zx zk_mt zk_ex Ls xs zm_269 (13, [(0, .ref 69), (1, .int (nI lo)), (2, .int (nI h1))], []) (zH u1 w t) _
      refine zx.adv 2 (f' := (17, [(0, .ref 69), (1, .int (nI lo)), (2, .int (nI h1))], [.int (u1 68 13)])) (h' := zH u1 w t) rfl ?_
      rw [show (u1 68 13) = 1 from (ha1 hz).1]
      refine zx.br (f1 := (22, [(0, .ref 69), (1, .int (nI lo)), (2, .int (nI h1))], [])) (f2 := (20, [(0, .ref 69), (1, .int (nI lo)), (2, .int (nI h1))], [])) rfl (fun c2 => absurd (of_decide_eq_true c2) (by decide)) (fun c2 => ?_)
      refine zx.adv 1 (f' := (21, [(0, .ref 69), (1, .int (nI lo)), (2, .int (nI h1))], [.int 0])) (h' := zH u1 w t) rfl ?_
      exact zx.rt rfl rfl ⟨u1, by rw [hsee]; rfl, hg1, by rw [hsee]; exact ha1 hz⟩
    · rw [hb1 hz] at hq1
      have h2 := zr_isName2 hz
      cases hf : zp_find S (tv k) with
      | some s' =>
        have hs' := (zp_find_some hf).1
        by_cases hin : lo ≤ s' ∧ s' < h1 + 1
        · have hsee : zp_see tn ts tp tv lo (h1 + 1) S k = .inl (s' - lo) := by
            unfold zp_see
            rw [if_neg hz, hf]
            exact if_pos hin
          have hwi : zr_mwithin (nI s') (nI lo) (nI h1) = 1 := by
            unfold zr_mwithin
            rw [if_neg (nI_nlt hin.1 (by omega)), if_neg (nI_nlt (by omega) (by omega))]
          refine zx.adv 2 (f' := (4, [(0, .ref 69), (1, .int (nI lo)), (2, .int (nI h1))], [.int (u 68 13)])) (h' := zH u w t) rfl ?_
          rw [show (u 68 13) = 0 from hs.2.2]
          refine zx.br (f1 := (9, [(0, .ref 69), (1, .int (nI lo)), (2, .int (nI h1))], [])) (f2 := (7, [(0, .ref 69), (1, .int (nI lo)), (2, .int (nI h1))], [])) rfl (fun c1 => ?_) (fun c1 => absurd (by decide) (of_decide_eq_false c1))
          refine zx.adv 1 (f' := (10, [(0, .ref 69), (1, .int (nI lo)), (2, .int (nI h1))], [.ref 69])) (h' := zH u w t) rfl ?_
          refine zx.cl (v := none) (h' := zH u w t) rfl hq1 ?_
          show zx zk_mt zk_ex Ls xs zm_269 (13, [(0, .ref 69), (1, .int (nI lo)), (2, .int (nI h1))], []) (zH u w t) _
          refine zx.adv 2 (f' := (17, [(0, .ref 69), (1, .int (nI lo)), (2, .int (nI h1))], [.int (u 68 13)])) (h' := zH u w t) rfl ?_
          rw [show (u 68 13) = 0 from hs.2.2]
          refine zx.br (f1 := (22, [(0, .ref 69), (1, .int (nI lo)), (2, .int (nI h1))], [])) (f2 := (20, [(0, .ref 69), (1, .int (nI lo)), (2, .int (nI h1))], [])) rfl (fun c2 => ?_) (fun c2 => absurd (by decide) (of_decide_eq_false c2))
          refine zx.adv 1 (f' := (23, [(0, .ref 69), (1, .int (nI lo)), (2, .int (nI h1))], [.ref 69])) (h' := zH u w t) rfl ?_
          refine zx.cl (v := some (.int (nI s'))) (h' := zH u w t) rfl (by have ee := zm_find (Ls := Ls) (xs := xs) (w := w) (t := t) hs h2 hN; rw [hf] at ee; exact ee) ?_
          show zx zk_mt zk_ex Ls xs zm_269 (26, [(0, .ref 69), (1, .int (nI lo)), (2, .int (nI h1))], [.int (nI s')]) (zH u w t) _
          refine zx.adv 4 (f' := (30, [(0, .ref 69), (1, .int (nI lo)), (2, .int (nI h1)), (3, .int (nI s'))], [.int (nI h1), .int (nI lo), .int (nI s')])) (h' := zH u w t) rfl ?_
          refine zx.cl (v := some (.int 1)) (h' := zH u w t) rfl (by have ee := zs_mwithin (v := u) (w := w) (t := t) (Ls := Ls) (xs := xs) (nI s') (nI lo) (nI h1); rw [show zr_mwithin (nI s') (nI lo) (nI h1) = 1 from hwi] at ee; exact ee) ?_
          show zx zk_mt zk_ex Ls xs zm_269 (33, [(0, .ref 69), (1, .int (nI lo)), (2, .int (nI h1)), (3, .int (nI s'))], [.int 1]) (zH u w t) _
          refine zx.br (f1 := (36, [(0, .ref 69), (1, .int (nI lo)), (2, .int (nI h1)), (3, .int (nI s'))], [])) (f2 := (45, [(0, .ref 69), (1, .int (nI lo)), (2, .int (nI h1)), (3, .int (nI s'))], [])) rfl (fun c3 => absurd (of_decide_eq_true c3) (by decide)) (fun c3 => ?_)
          refine zx.adv 2 (f' := (49, [(0, .ref 69), (1, .int (nI lo)), (2, .int (nI h1)), (3, .int (nI s'))], [.int (u 68 13)])) (h' := zH u w t) rfl ?_
          rw [show (u 68 13) = 0 from hs.2.2]
          refine zx.br (f1 := (56, [(0, .ref 69), (1, .int (nI lo)), (2, .int (nI h1)), (3, .int (nI s'))], [])) (f2 := (52, [(0, .ref 69), (1, .int (nI lo)), (2, .int (nI h1)), (3, .int (nI s'))], [])) rfl (fun c4 => ?_) (fun c4 => absurd (by decide) (of_decide_eq_false c4))
          refine zx.adv 3 (f' := (59, [(0, .ref 69), (1, .int (nI lo)), (2, .int (nI h1)), (3, .int (nI s'))], [.int ((nI s') - (nI lo))])) (h' := zH u w t) rfl ?_
          exact zx.rt rfl rfl ⟨u, by rw [hsee]; show _ = (some (Value.int (nI (s' - lo))), _); rw [← nI_sub2 hin.1], zMg.refl, by rw [hsee]⟩
        · have hsee : zp_see tn ts tp tv lo (h1 + 1) S k = .inr (2, tp k) := by
            unfold zp_see
            rw [if_neg hz, hf]
            exact if_neg hin
          have hwi : zr_mwithin (nI s') (nI lo) (nI h1) = 0 := by
            unfold zr_mwithin
            by_cases q1 : s' < lo
            · rw [if_pos (nI_lt q1 (by omega))]
            · rw [if_neg (nI_nlt (by omega) (by omega)), if_pos (nI_lt (by omega) (by omega))]
          refine zx.adv 2 (f' := (4, [(0, .ref 69), (1, .int (nI lo)), (2, .int (nI h1))], [.int (u 68 13)])) (h' := zH u w t) rfl ?_
          rw [show (u 68 13) = 0 from hs.2.2]
          refine zx.br (f1 := (9, [(0, .ref 69), (1, .int (nI lo)), (2, .int (nI h1))], [])) (f2 := (7, [(0, .ref 69), (1, .int (nI lo)), (2, .int (nI h1))], [])) rfl (fun c1 => ?_) (fun c1 => absurd (by decide) (of_decide_eq_false c1))
          refine zx.adv 1 (f' := (10, [(0, .ref 69), (1, .int (nI lo)), (2, .int (nI h1))], [.ref 69])) (h' := zH u w t) rfl ?_
          refine zx.cl (v := none) (h' := zH u w t) rfl hq1 ?_
          show zx zk_mt zk_ex Ls xs zm_269 (13, [(0, .ref 69), (1, .int (nI lo)), (2, .int (nI h1))], []) (zH u w t) _
          refine zx.adv 2 (f' := (17, [(0, .ref 69), (1, .int (nI lo)), (2, .int (nI h1))], [.int (u 68 13)])) (h' := zH u w t) rfl ?_
          rw [show (u 68 13) = 0 from hs.2.2]
          refine zx.br (f1 := (22, [(0, .ref 69), (1, .int (nI lo)), (2, .int (nI h1))], [])) (f2 := (20, [(0, .ref 69), (1, .int (nI lo)), (2, .int (nI h1))], [])) rfl (fun c2 => ?_) (fun c2 => absurd (by decide) (of_decide_eq_false c2))
          refine zx.adv 1 (f' := (23, [(0, .ref 69), (1, .int (nI lo)), (2, .int (nI h1))], [.ref 69])) (h' := zH u w t) rfl ?_
          refine zx.cl (v := some (.int (nI s'))) (h' := zH u w t) rfl (by have ee := zm_find (Ls := Ls) (xs := xs) (w := w) (t := t) hs h2 hN; rw [hf] at ee; exact ee) ?_
          show zx zk_mt zk_ex Ls xs zm_269 (26, [(0, .ref 69), (1, .int (nI lo)), (2, .int (nI h1))], [.int (nI s')]) (zH u w t) _
          refine zx.adv 4 (f' := (30, [(0, .ref 69), (1, .int (nI lo)), (2, .int (nI h1)), (3, .int (nI s'))], [.int (nI h1), .int (nI lo), .int (nI s')])) (h' := zH u w t) rfl ?_
          refine zx.cl (v := some (.int 0)) (h' := zH u w t) rfl (by have ee := zs_mwithin (v := u) (w := w) (t := t) (Ls := Ls) (xs := xs) (nI s') (nI lo) (nI h1); rw [show zr_mwithin (nI s') (nI lo) (nI h1) = 0 from hwi] at ee; exact ee) ?_
          show zx zk_mt zk_ex Ls xs zm_269 (33, [(0, .ref 69), (1, .int (nI lo)), (2, .int (nI h1)), (3, .int (nI s'))], [.int 0]) (zH u w t) _
          refine zx.br (f1 := (36, [(0, .ref 69), (1, .int (nI lo)), (2, .int (nI h1)), (3, .int (nI s'))], [])) (f2 := (45, [(0, .ref 69), (1, .int (nI lo)), (2, .int (nI h1)), (3, .int (nI s'))], [])) rfl (fun c3 => ?_) (fun c3 => absurd (by decide) (of_decide_eq_false c3))
          refine zx.adv 4 (f' := (42, [(0, .ref 69), (1, .int (nI lo)), (2, .int (nI h1)), (3, .int (nI s'))], [.int (u 68 4), .int 2, .ref 69])) (h' := zH u w t) rfl ?_
          refine zx.cl (v := none) (h' := zH (zb u 68 (upd (upd (upd (u 68) 9 2) 10 (u 68 4)) 13 1)) w t) rfl (zs_mwrong_0 (v := u) (w := w) hs.2.2 2 (u 68 4)) ?_
          show zx zk_mt zk_ex Ls xs zm_269 (45, [(0, .ref 69), (1, .int (nI lo)), (2, .int (nI h1)), (3, .int (nI s'))], []) (zH (zb u 68 (upd (upd (upd (u 68) 9 2) 10 (u 68 4)) 13 1)) w t) _
          refine zx.adv 2 (f' := (49, [(0, .ref 69), (1, .int (nI lo)), (2, .int (nI h1)), (3, .int (nI s'))], [.int 1])) (h' := zH (zb u 68 (upd (upd (upd (u 68) 9 2) 10 (u 68 4)) 13 1)) w t) rfl ?_
          refine zx.br (f1 := (56, [(0, .ref 69), (1, .int (nI lo)), (2, .int (nI h1)), (3, .int (nI s'))], [])) (f2 := (52, [(0, .ref 69), (1, .int (nI lo)), (2, .int (nI h1)), (3, .int (nI s'))], [])) rfl (fun c4 => absurd (of_decide_eq_true c4) (by decide)) (fun c4 => ?_)
          refine zx.adv 2 (f' := (59, [(0, .ref 69), (1, .int (nI lo)), (2, .int (nI h1)), (3, .int (nI s'))], [.int 0])) (h' := zH (zb u 68 (upd (upd (upd (u 68) 9 2) 10 (u 68 4)) 13 1)) w t) rfl ?_
          exact zx.rt rfl rfl ⟨_, by rw [hsee]; rfl, zMg.wrong, by rw [hsee]; exact zMx.wrong hs⟩
      | none =>
        have hsee : zp_see tn ts tp tv lo (h1 + 1) S k = .inr (2, tp k) := by
          unfold zp_see
          rw [if_neg hz, hf]
        have hwi : zr_mwithin (-1) (nI lo) (nI h1) = 0 := by
          unfold zr_mwithin
          rw [if_pos (Int32.lt_of_lt_of_le (show (-1 : Int32) < 0 by decide) (nI_pos' (by omega)))]
        refine zx.adv 2 (f' := (4, [(0, .ref 69), (1, .int (nI lo)), (2, .int (nI h1))], [.int (u 68 13)])) (h' := zH u w t) rfl ?_
        rw [show (u 68 13) = 0 from hs.2.2]
        refine zx.br (f1 := (9, [(0, .ref 69), (1, .int (nI lo)), (2, .int (nI h1))], [])) (f2 := (7, [(0, .ref 69), (1, .int (nI lo)), (2, .int (nI h1))], [])) rfl (fun c1 => ?_) (fun c1 => absurd (by decide) (of_decide_eq_false c1))
        refine zx.adv 1 (f' := (10, [(0, .ref 69), (1, .int (nI lo)), (2, .int (nI h1))], [.ref 69])) (h' := zH u w t) rfl ?_
        refine zx.cl (v := none) (h' := zH u w t) rfl hq1 ?_
        show zx zk_mt zk_ex Ls xs zm_269 (13, [(0, .ref 69), (1, .int (nI lo)), (2, .int (nI h1))], []) (zH u w t) _
        refine zx.adv 2 (f' := (17, [(0, .ref 69), (1, .int (nI lo)), (2, .int (nI h1))], [.int (u 68 13)])) (h' := zH u w t) rfl ?_
        rw [show (u 68 13) = 0 from hs.2.2]
        refine zx.br (f1 := (22, [(0, .ref 69), (1, .int (nI lo)), (2, .int (nI h1))], [])) (f2 := (20, [(0, .ref 69), (1, .int (nI lo)), (2, .int (nI h1))], [])) rfl (fun c2 => ?_) (fun c2 => absurd (by decide) (of_decide_eq_false c2))
        refine zx.adv 1 (f' := (23, [(0, .ref 69), (1, .int (nI lo)), (2, .int (nI h1))], [.ref 69])) (h' := zH u w t) rfl ?_
        refine zx.cl (v := some (.int (-1))) (h' := zH u w t) rfl (by have ee := zm_find (Ls := Ls) (xs := xs) (w := w) (t := t) hs h2 hN; rw [hf] at ee; exact ee) ?_
        show zx zk_mt zk_ex Ls xs zm_269 (26, [(0, .ref 69), (1, .int (nI lo)), (2, .int (nI h1))], [.int (-1)]) (zH u w t) _
        refine zx.adv 4 (f' := (30, [(0, .ref 69), (1, .int (nI lo)), (2, .int (nI h1)), (3, .int (-1))], [.int (nI h1), .int (nI lo), .int (-1)])) (h' := zH u w t) rfl ?_
        refine zx.cl (v := some (.int 0)) (h' := zH u w t) rfl (by have ee := zs_mwithin (v := u) (w := w) (t := t) (Ls := Ls) (xs := xs) (-1) (nI lo) (nI h1); rw [show zr_mwithin (-1) (nI lo) (nI h1) = 0 from hwi] at ee; exact ee) ?_
        show zx zk_mt zk_ex Ls xs zm_269 (33, [(0, .ref 69), (1, .int (nI lo)), (2, .int (nI h1)), (3, .int (-1))], [.int 0]) (zH u w t) _
        refine zx.br (f1 := (36, [(0, .ref 69), (1, .int (nI lo)), (2, .int (nI h1)), (3, .int (-1))], [])) (f2 := (45, [(0, .ref 69), (1, .int (nI lo)), (2, .int (nI h1)), (3, .int (-1))], [])) rfl (fun c3 => ?_) (fun c3 => absurd (by decide) (of_decide_eq_false c3))
        refine zx.adv 4 (f' := (42, [(0, .ref 69), (1, .int (nI lo)), (2, .int (nI h1)), (3, .int (-1))], [.int (u 68 4), .int 2, .ref 69])) (h' := zH u w t) rfl ?_
        refine zx.cl (v := none) (h' := zH (zb u 68 (upd (upd (upd (u 68) 9 2) 10 (u 68 4)) 13 1)) w t) rfl (zs_mwrong_0 (v := u) (w := w) hs.2.2 2 (u 68 4)) ?_
        show zx zk_mt zk_ex Ls xs zm_269 (45, [(0, .ref 69), (1, .int (nI lo)), (2, .int (nI h1)), (3, .int (-1))], []) (zH (zb u 68 (upd (upd (upd (u 68) 9 2) 10 (u 68 4)) 13 1)) w t) _
        refine zx.adv 2 (f' := (49, [(0, .ref 69), (1, .int (nI lo)), (2, .int (nI h1)), (3, .int (-1))], [.int 1])) (h' := zH (zb u 68 (upd (upd (upd (u 68) 9 2) 10 (u 68 4)) 13 1)) w t) rfl ?_
        refine zx.br (f1 := (56, [(0, .ref 69), (1, .int (nI lo)), (2, .int (nI h1)), (3, .int (-1))], [])) (f2 := (52, [(0, .ref 69), (1, .int (nI lo)), (2, .int (nI h1)), (3, .int (-1))], [])) rfl (fun c4 => absurd (of_decide_eq_true c4) (by decide)) (fun c4 => ?_)
        refine zx.adv 2 (f' := (59, [(0, .ref 69), (1, .int (nI lo)), (2, .int (nI h1)), (3, .int (-1))], [.int 0])) (h' := zH (zb u 68 (upd (upd (upd (u 68) 9 2) 10 (u 68 4)) 13 1)) w t) rfl ?_
        exact zx.rt rfl rfl ⟨_, by rw [hsee]; rfl, zMg.wrong, by rw [hsee]; exact zMx.wrong hs⟩
  obtain ⟨q, h1, u', rfl, h2⟩ := main
  exact ⟨u', h1, h2⟩
/-- BasketKeepModel.dangerHere -/
theorem zm_dangerHere_x (hf : u 68 13 = 1) : zk_Cr zk_mt zk_ex Ls xs 293 [.ref 69] (zH u w t) (some (.int 0), zH u w t) := by
  refine zk_Cr.of (K := zm_293) rfl rfl rfl ?_
  show zk_T zk_mt zk_ex Ls xs zm_293 (0, [(0, .ref 69)], []) (zH u w t) _
  refine zk_T.adv 3 (f' := (4, [(0, .ref 69)], [.int 7, .int 0, .ref 69])) (h' := zH u w t) rfl ?_
  refine zk_T.cl (v := some (.int 0)) (h' := zH u w t) rfl (zm_named_x (u := u) 0 7 hf) ?_
  show zk_T zk_mt zk_ex Ls xs zm_293 (7, [(0, .ref 69)], [.int 0]) (zH u w t) _
  exact zk_T.rt rfl rfl (by rfl)
/-- BasketKeepModel.dangerHere -/
theorem zm_dangerHere_c {u' : Nat → Nat → Int32} {r : Int32} (hq : zk_Cr zk_mt zk_ex Ls xs 269 [.ref 69, .int 0, .int 7] (zH u w t) (some (.int r), zH u' w t)) : zk_Cr zk_mt zk_ex Ls xs 293 [.ref 69] (zH u w t) (some (.int r), zH u' w t) := by
  refine zk_Cr.of (K := zm_293) rfl rfl rfl ?_
  show zk_T zk_mt zk_ex Ls xs zm_293 (0, [(0, .ref 69)], []) (zH u w t) _
  refine zk_T.adv 3 (f' := (4, [(0, .ref 69)], [.int 7, .int 0, .ref 69])) (h' := zH u w t) rfl ?_
  refine zk_T.cl (v := some (.int r)) (h' := zH u' w t) rfl hq ?_
  show zk_T zk_mt zk_ex Ls xs zm_293 (7, [(0, .ref 69)], [.int r]) (zH u' w t) _
  exact zk_T.rt rfl rfl (by rfl)
theorem zm_dangerHere {k : Nat} {S : Nat → Int64} (hs : zMs tn ts tp tv E B k u) (hN : zRN S (u 72)) : ∃ u', zk_Cr zk_mt zk_ex Ls xs 293 [.ref 69] (zH u w t) (some (.int (zsv (zp_see tn ts tp tv 0 8 S k))), zH u' w t) ∧ zMg u u' ∧ match zp_see tn ts tp tv 0 8 S k with
    | .inl _ => u' = u
    | .inr (f, p) => zMx f p u' := by
  obtain ⟨u', h1, h2⟩ := zm_named (Ls := Ls) (xs := xs) (w := w) (t := t) (lo := 0) (h1 := 7) (by decide) (by decide) (by decide) hs hN
  exact ⟨u', zm_dangerHere_c h1, h2⟩
/-- BasketKeepModel.makerHere -/
theorem zm_makerHere_x (hf : u 68 13 = 1) : zk_Cr zk_mt zk_ex Ls xs 295 [.ref 69] (zH u w t) (some (.int 0), zH u w t) := by
  refine zk_Cr.of (K := zm_295) rfl rfl rfl ?_
  show zk_T zk_mt zk_ex Ls xs zm_295 (0, [(0, .ref 69)], []) (zH u w t) _
  refine zk_T.adv 3 (f' := (5, [(0, .ref 69)], [.int 12, .int 8, .ref 69])) (h' := zH u w t) rfl ?_
  refine zk_T.cl (v := some (.int 0)) (h' := zH u w t) rfl (zm_named_x (u := u) 8 12 hf) ?_
  show zk_T zk_mt zk_ex Ls xs zm_295 (8, [(0, .ref 69)], [.int 0]) (zH u w t) _
  exact zk_T.rt rfl rfl (by rfl)
/-- BasketKeepModel.makerHere -/
theorem zm_makerHere_c {u' : Nat → Nat → Int32} {r : Int32} (hq : zk_Cr zk_mt zk_ex Ls xs 269 [.ref 69, .int 8, .int 12] (zH u w t) (some (.int r), zH u' w t)) : zk_Cr zk_mt zk_ex Ls xs 295 [.ref 69] (zH u w t) (some (.int r), zH u' w t) := by
  refine zk_Cr.of (K := zm_295) rfl rfl rfl ?_
  show zk_T zk_mt zk_ex Ls xs zm_295 (0, [(0, .ref 69)], []) (zH u w t) _
  refine zk_T.adv 3 (f' := (5, [(0, .ref 69)], [.int 12, .int 8, .ref 69])) (h' := zH u w t) rfl ?_
  refine zk_T.cl (v := some (.int r)) (h' := zH u' w t) rfl hq ?_
  show zk_T zk_mt zk_ex Ls xs zm_295 (8, [(0, .ref 69)], [.int r]) (zH u' w t) _
  exact zk_T.rt rfl rfl (by rfl)
theorem zm_makerHere {k : Nat} {S : Nat → Int64} (hs : zMs tn ts tp tv E B k u) (hN : zRN S (u 72)) : ∃ u', zk_Cr zk_mt zk_ex Ls xs 295 [.ref 69] (zH u w t) (some (.int (zsv (zp_see tn ts tp tv 8 13 S k))), zH u' w t) ∧ zMg u u' ∧ match zp_see tn ts tp tv 8 13 S k with
    | .inl _ => u' = u
    | .inr (f, p) => zMx f p u' := by
  obtain ⟨u', h1, h2⟩ := zm_named (Ls := Ls) (xs := xs) (w := w) (t := t) (lo := 8) (h1 := 12) (by decide) (by decide) (by decide) hs hN
  exact ⟨u', zm_makerHere_c h1, h2⟩
/-- BasketKeepModel.goodHere -/
theorem zm_goodHere_x (hf : u 68 13 = 1) : zk_Cr zk_mt zk_ex Ls xs 294 [.ref 69] (zH u w t) (some (.int 0), zH u w t) := by
  refine zk_Cr.of (K := zm_294) rfl rfl rfl ?_
  show zk_T zk_mt zk_ex Ls xs zm_294 (0, [(0, .ref 69)], []) (zH u w t) _
  refine zk_T.adv 3 (f' := (5, [(0, .ref 69)], [.int 16, .int 13, .ref 69])) (h' := zH u w t) rfl ?_
  refine zk_T.cl (v := some (.int 0)) (h' := zH u w t) rfl (zm_named_x (u := u) 13 16 hf) ?_
  show zk_T zk_mt zk_ex Ls xs zm_294 (8, [(0, .ref 69)], [.int 0]) (zH u w t) _
  exact zk_T.rt rfl rfl (by rfl)
/-- BasketKeepModel.goodHere -/
theorem zm_goodHere_c {u' : Nat → Nat → Int32} {r : Int32} (hq : zk_Cr zk_mt zk_ex Ls xs 269 [.ref 69, .int 13, .int 16] (zH u w t) (some (.int r), zH u' w t)) : zk_Cr zk_mt zk_ex Ls xs 294 [.ref 69] (zH u w t) (some (.int r), zH u' w t) := by
  refine zk_Cr.of (K := zm_294) rfl rfl rfl ?_
  show zk_T zk_mt zk_ex Ls xs zm_294 (0, [(0, .ref 69)], []) (zH u w t) _
  refine zk_T.adv 3 (f' := (5, [(0, .ref 69)], [.int 16, .int 13, .ref 69])) (h' := zH u w t) rfl ?_
  refine zk_T.cl (v := some (.int r)) (h' := zH u' w t) rfl hq ?_
  show zk_T zk_mt zk_ex Ls xs zm_294 (8, [(0, .ref 69)], [.int r]) (zH u' w t) _
  exact zk_T.rt rfl rfl (by rfl)
theorem zm_goodHere {k : Nat} {S : Nat → Int64} (hs : zMs tn ts tp tv E B k u) (hN : zRN S (u 72)) : ∃ u', zk_Cr zk_mt zk_ex Ls xs 294 [.ref 69] (zH u w t) (some (.int (zsv (zp_see tn ts tp tv 13 17 S k))), zH u' w t) ∧ zMg u u' ∧ match zp_see tn ts tp tv 13 17 S k with
    | .inl _ => u' = u
    | .inr (f, p) => zMx f p u' := by
  obtain ⟨u', h1, h2⟩ := zm_named (Ls := Ls) (xs := xs) (w := w) (t := t) (lo := 13) (h1 := 16) (by decide) (by decide) (by decide) hs hN
  exact ⟨u', zm_goodHere_c h1, h2⟩
/-- BasketKeepModel.pass -/
theorem zm_pass_x (hf : u 68 13 = 1) : zk_Cr zk_mt zk_ex Ls xs 173 [.ref 69] (zH u w t) (none, zH u w t) := by
  refine zk_Cr.of (K := zm_173) rfl rfl rfl ?_
  show zk_T zk_mt zk_ex Ls xs zm_173 (0, [(0, .ref 69)], []) (zH u w t) _
  refine zk_T.adv 2 (f' := (4, [(0, .ref 69)], [.int (u 68 13)])) (h' := zH u w t) rfl ?_
  rw [show (u 68 13) = 1 from hf]
  refine zk_T.br (f1 := (7, [(0, .ref 69)], [])) (f2 := (11, [(0, .ref 69)], [])) rfl (fun c1 => absurd (of_decide_eq_true c1) (by decide)) (fun c1 => ?_)
  exact zk_T.rt rfl rfl (by rfl)
/-- BasketKeepModel.pass -/
theorem zm_pass_c {u' : Nat → Nat → Int32} (hf : u 68 13 = 0) (hq : zk_Cr zk_mt zk_ex Ls xs 122 [.ref 69] (zH u w t) (none, zH u' w t)) : zk_Cr zk_mt zk_ex Ls xs 173 [.ref 69] (zH u w t) (none, zH u' w t) := by
  refine zk_Cr.of (K := zm_173) rfl rfl rfl ?_
  show zk_T zk_mt zk_ex Ls xs zm_173 (0, [(0, .ref 69)], []) (zH u w t) _
  refine zk_T.adv 2 (f' := (4, [(0, .ref 69)], [.int (u 68 13)])) (h' := zH u w t) rfl ?_
  rw [show (u 68 13) = 0 from hf]
  refine zk_T.br (f1 := (7, [(0, .ref 69)], [])) (f2 := (11, [(0, .ref 69)], [])) rfl (fun c1 => ?_) (fun c1 => absurd (by decide) (of_decide_eq_false c1))
  refine zk_T.adv 1 (f' := (8, [(0, .ref 69)], [.ref 69])) (h' := zH u w t) rfl ?_
  refine zk_T.cl (v := none) (h' := zH u' w t) rfl hq ?_
  show zk_T zk_mt zk_ex Ls xs zm_173 (11, [(0, .ref 69)], []) (zH u' w t) _
  exact zk_T.rt rfl rfl (by rfl)
theorem zm_pass (hM : zk_MA Ls xs tn ts tp tv E B) {k : Nat} (hs : zMs tn ts tp tv E B k u) : ∃ u', zk_Cr zk_mt zk_ex Ls xs 173 [.ref 69] (zH u w t) (none, zH u' w t) ∧ zMg u u' ∧ zMs tn ts tp tv E B (tn k) u' := by
  obtain ⟨u', h1, h2⟩ := zm_next (w := w) (t := t) hM hs
  exact ⟨u', zm_pass_c hs.2.2 h1, h2⟩
/-- BasketKeepModel.number -/
theorem zm_number_x (y z : Int32) (hf : u 68 13 = 1) : zk_Cr zk_mt zk_ex Ls xs 170 [.ref 69, .int y, .int z] (zH u w t) (some (.int y), zH u w t) := by
  refine zk_Cr.of (K := zm_170) rfl rfl rfl ?_
  show zk_T zk_mt zk_ex Ls xs zm_170 (0, [(0, .ref 69), (1, .int y), (2, .int z)], []) (zH u w t) _
  refine zk_T.adv 2 (f' := (4, [(0, .ref 69), (1, .int y), (2, .int z)], [.int (u 68 13)])) (h' := zH u w t) rfl ?_
  rw [show (u 68 13) = 1 from hf]
  refine zk_T.br (f1 := (9, [(0, .ref 69), (1, .int y), (2, .int z)], [])) (f2 := (7, [(0, .ref 69), (1, .int y), (2, .int z)], [])) rfl (fun c1 => absurd (of_decide_eq_true c1) (by decide)) (fun c1 => ?_)
  refine zk_T.adv 1 (f' := (8, [(0, .ref 69), (1, .int y), (2, .int z)], [.int y])) (h' := zH u w t) rfl ?_
  exact zk_T.rt rfl rfl (by rfl)
/-- BasketKeepModel.number -/
theorem zm_number (hM : zk_MA Ls xs tn ts tp tv E B) {k lo hi : Nat} (hlo : lo < 1000) (hhi : hi < 1000) (hs : zMs tn ts tp tv E B k u) : ∃ u', zk_Cr zk_mt zk_ex Ls xs 170 [.ref 69, .int (nI lo), .int (nI hi)] (zH u w t) (some (.int (zsv2 lo (zp_num tn ts tp tv lo hi k))), zH u' w t) ∧ zMg u u' ∧ zR2 tn ts tp tv E B (zp_num tn ts tp tv lo hi k) u' := by
  have main : ∃ q, zk_Cr zk_mt zk_ex Ls xs 170 [.ref 69, .int (nI lo), .int (nI hi)] (zH u w t) q ∧ ∃ u', q = (some (.int (zsv2 lo (zp_num tn ts tp tv lo hi k))), zH u' w t) ∧ zMg u u' ∧ zR2 tn ts tp tv E B (zp_num tn ts tp tv lo hi k) u' := by
    refine zx.of (K := zm_170) rfl rfl rfl ?_
    show zx zk_mt zk_ex Ls xs zm_170 (0, [(0, .ref 69), (1, .int (nI lo)), (2, .int (nI hi))], []) (zH u w t) _
    have htok := hs.1.2.2.2.2.1
    by_cases h3 : ts k = 3
    · have h6 : u 68 6 = 3 := by rw [htok]; exact zt_tok3.mpr h3
      obtain ⟨x, hx9, hx, hv⟩ := hs.1.2.2.2.2.2.1 h3
      have he : zp_num tn ts tp tv lo hi k = if lo ≤ x ∧ x ≤ hi then .inl (tn k, x) else .inr (4, tp k) := by
        unfold zp_num
        rw [if_pos h3, hv, Int32.toInt32_toInt64, nI_clamp (by omega)]
      by_cases hin : lo ≤ x ∧ x ≤ hi
      · have hnum : zp_num tn ts tp tv lo hi k = .inl (tn k, x) := by rw [he, if_pos hin]
        have hwi : zr_mwithin (nI x) (nI lo) (nI hi) = 1 := by
          unfold zr_mwithin
          rw [if_neg (nI_nlt hin.1 (by omega)), if_neg (nI_nlt hin.2 (by omega))]
        obtain ⟨u2, hq2, hg2, hs2⟩ := zm_next (w := w) (t := t) hM hs
        refine zx.adv 2 (f' := (4, [(0, .ref 69), (1, .int (nI lo)), (2, .int (nI hi))], [.int (u 68 13)])) (h' := zH u w t) rfl ?_
        rw [show (u 68 13) = 0 from hs.2.2]
        refine zx.br (f1 := (9, [(0, .ref 69), (1, .int (nI lo)), (2, .int (nI hi))], [])) (f2 := (7, [(0, .ref 69), (1, .int (nI lo)), (2, .int (nI hi))], [])) rfl (fun c1 => ?_) (fun c1 => absurd (by decide) (of_decide_eq_false c1))
        refine zx.adv 3 (f' := (14, [(0, .ref 69), (1, .int (nI lo)), (2, .int (nI hi))], [.int 3, .int (u 68 6)])) (h' := zH u w t) rfl ?_
        refine zx.br (f1 := (29, [(0, .ref 69), (1, .int (nI lo)), (2, .int (nI hi))], [])) (f2 := (17, [(0, .ref 69), (1, .int (nI lo)), (2, .int (nI hi))], [])) rfl (fun c2 => ?_) (fun c2 => absurd h6 (of_decide_eq_false c2))
        refine zx.adv 2 (f' := (33, [(0, .ref 69), (1, .int (nI lo)), (2, .int (nI hi))], [.int (u 68 7)])) (h' := zH u w t) rfl ?_
        rw [show (u 68 7) = nI x from hx]
        refine zx.adv 2 (f' := (35, [(0, .ref 69), (1, .int (nI lo)), (2, .int (nI hi))], [.int (nI hi), .int (nI lo), .int (nI x)])) (h' := zH u w t) rfl ?_
        refine zx.cl (v := some (.int 1)) (h' := zH u w t) rfl (by have ee := zs_mwithin (v := u) (w := w) (t := t) (Ls := Ls) (xs := xs) (nI x) (nI lo) (nI hi); rw [hwi] at ee; exact ee) ?_
        show zx zk_mt zk_ex Ls xs zm_170 (38, [(0, .ref 69), (1, .int (nI lo)), (2, .int (nI hi))], [.int 1]) (zH u w t) _
        refine zx.br (f1 := (41, [(0, .ref 69), (1, .int (nI lo)), (2, .int (nI hi))], [])) (f2 := (50, [(0, .ref 69), (1, .int (nI lo)), (2, .int (nI hi))], [])) rfl (fun c3 => absurd (of_decide_eq_true c3) (by decide)) (fun c3 => ?_)
        refine zx.adv 2 (f' := (54, [(0, .ref 69), (1, .int (nI lo)), (2, .int (nI hi))], [.int (u 68 13)])) (h' := zH u w t) rfl ?_
        rw [show (u 68 13) = 0 from hs.2.2]
        refine zx.br (f1 := (59, [(0, .ref 69), (1, .int (nI lo)), (2, .int (nI hi))], [])) (f2 := (57, [(0, .ref 69), (1, .int (nI lo)), (2, .int (nI hi))], [])) rfl (fun c4 => ?_) (fun c4 => absurd (by decide) (of_decide_eq_false c4))
        refine zx.adv 2 (f' := (63, [(0, .ref 69), (1, .int (nI lo)), (2, .int (nI hi))], [.int (u 68 7)])) (h' := zH u w t) rfl ?_
        rw [show (u 68 7) = nI x from hx]
        refine zx.adv 2 (f' := (65, [(0, .ref 69), (1, .int (nI lo)), (2, .int (nI hi)), (3, .int (nI x))], [.ref 69])) (h' := zH u w t) rfl ?_
        refine zx.cl (v := none) (h' := zH u2 w t) rfl hq2 ?_
        show zx zk_mt zk_ex Ls xs zm_170 (68, [(0, .ref 69), (1, .int (nI lo)), (2, .int (nI hi)), (3, .int (nI x))], []) (zH u2 w t) _
        refine zx.adv 1 (f' := (69, [(0, .ref 69), (1, .int (nI lo)), (2, .int (nI hi)), (3, .int (nI x))], [.int (nI x)])) (h' := zH u2 w t) rfl ?_
        exact zx.rt rfl rfl ⟨u2, by rw [hnum]; rfl, hg2, by rw [hnum]; exact hs2⟩
      · have hnum : zp_num tn ts tp tv lo hi k = .inr (4, tp k) := by rw [he, if_neg hin]
        have hwi : zr_mwithin (nI x) (nI lo) (nI hi) = 0 := by
          unfold zr_mwithin
          by_cases q1 : x < lo
          · rw [if_pos (nI_lt q1 (by omega))]
          · rw [if_neg (nI_nlt (by omega) (by omega)), if_pos (nI_lt (by omega) (by omega))]
        refine zx.adv 2 (f' := (4, [(0, .ref 69), (1, .int (nI lo)), (2, .int (nI hi))], [.int (u 68 13)])) (h' := zH u w t) rfl ?_
        rw [show (u 68 13) = 0 from hs.2.2]
        refine zx.br (f1 := (9, [(0, .ref 69), (1, .int (nI lo)), (2, .int (nI hi))], [])) (f2 := (7, [(0, .ref 69), (1, .int (nI lo)), (2, .int (nI hi))], [])) rfl (fun c1 => ?_) (fun c1 => absurd (by decide) (of_decide_eq_false c1))
        refine zx.adv 3 (f' := (14, [(0, .ref 69), (1, .int (nI lo)), (2, .int (nI hi))], [.int 3, .int (u 68 6)])) (h' := zH u w t) rfl ?_
        refine zx.br (f1 := (29, [(0, .ref 69), (1, .int (nI lo)), (2, .int (nI hi))], [])) (f2 := (17, [(0, .ref 69), (1, .int (nI lo)), (2, .int (nI hi))], [])) rfl (fun c2 => ?_) (fun c2 => absurd h6 (of_decide_eq_false c2))
        refine zx.adv 2 (f' := (33, [(0, .ref 69), (1, .int (nI lo)), (2, .int (nI hi))], [.int (u 68 7)])) (h' := zH u w t) rfl ?_
        rw [show (u 68 7) = nI x from hx]
        refine zx.adv 2 (f' := (35, [(0, .ref 69), (1, .int (nI lo)), (2, .int (nI hi))], [.int (nI hi), .int (nI lo), .int (nI x)])) (h' := zH u w t) rfl ?_
        refine zx.cl (v := some (.int 0)) (h' := zH u w t) rfl (by have ee := zs_mwithin (v := u) (w := w) (t := t) (Ls := Ls) (xs := xs) (nI x) (nI lo) (nI hi); rw [hwi] at ee; exact ee) ?_
        show zx zk_mt zk_ex Ls xs zm_170 (38, [(0, .ref 69), (1, .int (nI lo)), (2, .int (nI hi))], [.int 0]) (zH u w t) _
        refine zx.br (f1 := (41, [(0, .ref 69), (1, .int (nI lo)), (2, .int (nI hi))], [])) (f2 := (50, [(0, .ref 69), (1, .int (nI lo)), (2, .int (nI hi))], [])) rfl (fun c3 => ?_) (fun c3 => absurd (by decide) (of_decide_eq_false c3))
        refine zx.adv 4 (f' := (47, [(0, .ref 69), (1, .int (nI lo)), (2, .int (nI hi))], [.int (u 68 4), .int 4, .ref 69])) (h' := zH u w t) rfl ?_
        refine zx.cl (v := none) (h' := zH (zb u 68 (upd (upd (upd (u 68) 9 4) 10 (u 68 4)) 13 1)) w t) rfl (zs_mwrong_0 (v := u) (w := w) hs.2.2 4 (u 68 4)) ?_
        show zx zk_mt zk_ex Ls xs zm_170 (50, [(0, .ref 69), (1, .int (nI lo)), (2, .int (nI hi))], []) (zH (zb u 68 (upd (upd (upd (u 68) 9 4) 10 (u 68 4)) 13 1)) w t) _
        refine zx.adv 2 (f' := (54, [(0, .ref 69), (1, .int (nI lo)), (2, .int (nI hi))], [.int 1])) (h' := zH (zb u 68 (upd (upd (upd (u 68) 9 4) 10 (u 68 4)) 13 1)) w t) rfl ?_
        refine zx.br (f1 := (59, [(0, .ref 69), (1, .int (nI lo)), (2, .int (nI hi))], [])) (f2 := (57, [(0, .ref 69), (1, .int (nI lo)), (2, .int (nI hi))], [])) rfl (fun c4 => absurd (of_decide_eq_true c4) (by decide)) (fun c4 => ?_)
        refine zx.adv 1 (f' := (58, [(0, .ref 69), (1, .int (nI lo)), (2, .int (nI hi))], [.int (nI lo)])) (h' := zH (zb u 68 (upd (upd (upd (u 68) 9 4) 10 (u 68 4)) 13 1)) w t) rfl ?_
        exact zx.rt rfl rfl ⟨_, by rw [hnum]; rfl, zMg.wrong, by rw [hnum]; exact zMx.wrong hs⟩
    · have h6 : ¬ u 68 6 = 3 := fun z => h3 (zt_tok3.mp (by rw [← htok]; exact z))
      have hnum : zp_num tn ts tp tv lo hi k = .inr (1, tp k) := by unfold zp_num; rw [if_neg h3]
      refine zx.adv 2 (f' := (4, [(0, .ref 69), (1, .int (nI lo)), (2, .int (nI hi))], [.int (u 68 13)])) (h' := zH u w t) rfl ?_
      rw [show (u 68 13) = 0 from hs.2.2]
      refine zx.br (f1 := (9, [(0, .ref 69), (1, .int (nI lo)), (2, .int (nI hi))], [])) (f2 := (7, [(0, .ref 69), (1, .int (nI lo)), (2, .int (nI hi))], [])) rfl (fun c1 => ?_) (fun c1 => absurd (by decide) (of_decide_eq_false c1))
      refine zx.adv 3 (f' := (14, [(0, .ref 69), (1, .int (nI lo)), (2, .int (nI hi))], [.int 3, .int (u 68 6)])) (h' := zH u w t) rfl ?_
      refine zx.br (f1 := (29, [(0, .ref 69), (1, .int (nI lo)), (2, .int (nI hi))], [])) (f2 := (17, [(0, .ref 69), (1, .int (nI lo)), (2, .int (nI hi))], [])) rfl (fun c2 => absurd (of_decide_eq_true c2) h6) (fun c2 => ?_)
      refine zx.adv 4 (f' := (23, [(0, .ref 69), (1, .int (nI lo)), (2, .int (nI hi))], [.int (u 68 4), .int 1, .ref 69])) (h' := zH u w t) rfl ?_
      refine zx.cl (v := none) (h' := zH (zb u 68 (upd (upd (upd (u 68) 9 1) 10 (u 68 4)) 13 1)) w t) rfl (zs_mwrong_0 (v := u) (w := w) hs.2.2 1 (u 68 4)) ?_
      show zx zk_mt zk_ex Ls xs zm_170 (26, [(0, .ref 69), (1, .int (nI lo)), (2, .int (nI hi))], []) (zH (zb u 68 (upd (upd (upd (u 68) 9 1) 10 (u 68 4)) 13 1)) w t) _
      refine zx.adv 3 (f' := (54, [(0, .ref 69), (1, .int (nI lo)), (2, .int (nI hi))], [.int 1])) (h' := zH (zb u 68 (upd (upd (upd (u 68) 9 1) 10 (u 68 4)) 13 1)) w t) rfl ?_
      refine zx.br (f1 := (59, [(0, .ref 69), (1, .int (nI lo)), (2, .int (nI hi))], [])) (f2 := (57, [(0, .ref 69), (1, .int (nI lo)), (2, .int (nI hi))], [])) rfl (fun c3 => absurd (of_decide_eq_true c3) (by decide)) (fun c3 => ?_)
      refine zx.adv 1 (f' := (58, [(0, .ref 69), (1, .int (nI lo)), (2, .int (nI hi))], [.int (nI lo)])) (h' := zH (zb u 68 (upd (upd (upd (u 68) 9 1) 10 (u 68 4)) 13 1)) w t) rfl ?_
      exact zx.rt rfl rfl ⟨_, by rw [hnum]; rfl, zMg.wrong, by rw [hnum]; exact zMx.wrong hs⟩
  obtain ⟨q, h1, u', rfl, h2⟩ := main
  exact ⟨u', h1, h2⟩
/-- BasketKeepModel.after -/
theorem zm_after_x (a : Nat) (y z : Int32) (hf : u 68 13 = 1) : zk_Cr zk_mt zk_ex Ls xs 290 [.ref 69, .retAddr a, .int y, .int z] (zH u w t) (some (.int y), zH u w t) := by
  refine zk_Cr.of (K := zm_290) rfl rfl rfl ?_
  show zk_T zk_mt zk_ex Ls xs zm_290 (0, [(0, .ref 69), (1, .retAddr a), (2, .int y), (3, .int z)], []) (zH u w t) _
  refine zk_T.adv 2 (f' := (2, [(0, .ref 69), (1, .retAddr a), (2, .int y), (3, .int z)], [.retAddr a, .ref 69])) (h' := zH u w t) rfl ?_
  refine zk_T.cl (v := none) (h' := zH u w t) rfl (zm_must_x (u := u) a hf) ?_
  show zk_T zk_mt zk_ex Ls xs zm_290 (5, [(0, .ref 69), (1, .retAddr a), (2, .int y), (3, .int z)], []) (zH u w t) _
  refine zk_T.adv 3 (f' := (8, [(0, .ref 69), (1, .retAddr a), (2, .int y), (3, .int z)], [.int z, .int y, .ref 69])) (h' := zH u w t) rfl ?_
  refine zk_T.cl (v := some (.int y)) (h' := zH u w t) rfl (zm_number_x (u := u) y z hf) ?_
  show zk_T zk_mt zk_ex Ls xs zm_290 (11, [(0, .ref 69), (1, .retAddr a), (2, .int y), (3, .int z)], [.int y]) (zH u w t) _
  exact zk_T.rt rfl rfl (by rfl)
/-- BasketKeepModel.after -/
theorem zm_after_c (a : Nat) (y z : Int32) {u1 u2 : Nat → Nat → Int32} {r : Int32} (h1 : zk_Cr zk_mt zk_ex Ls xs 268 [.ref 69, .retAddr a] (zH u w t) (none, zH u1 w t)) (h2 : zk_Cr zk_mt zk_ex Ls xs 170 [.ref 69, .int y, .int z] (zH u1 w t) (some (.int r), zH u2 w t)) : zk_Cr zk_mt zk_ex Ls xs 290 [.ref 69, .retAddr a, .int y, .int z] (zH u w t) (some (.int r), zH u2 w t) := by
  refine zk_Cr.of (K := zm_290) rfl rfl rfl ?_
  show zk_T zk_mt zk_ex Ls xs zm_290 (0, [(0, .ref 69), (1, .retAddr a), (2, .int y), (3, .int z)], []) (zH u w t) _
  refine zk_T.adv 2 (f' := (2, [(0, .ref 69), (1, .retAddr a), (2, .int y), (3, .int z)], [.retAddr a, .ref 69])) (h' := zH u w t) rfl ?_
  refine zk_T.cl (v := none) (h' := zH u1 w t) rfl h1 ?_
  show zk_T zk_mt zk_ex Ls xs zm_290 (5, [(0, .ref 69), (1, .retAddr a), (2, .int y), (3, .int z)], []) (zH u1 w t) _
  refine zk_T.adv 3 (f' := (8, [(0, .ref 69), (1, .retAddr a), (2, .int y), (3, .int z)], [.int z, .int y, .ref 69])) (h' := zH u1 w t) rfl ?_
  refine zk_T.cl (v := some (.int r)) (h' := zH u2 w t) rfl h2 ?_
  show zk_T zk_mt zk_ex Ls xs zm_290 (11, [(0, .ref 69), (1, .retAddr a), (2, .int y), (3, .int z)], [.int r]) (zH u2 w t) _
  exact zk_T.rt rfl rfl (by rfl)
def zp_aft (tn : Nat → Nat) (ts : Nat → Int32) (tp : Nat → Nat) (tv : Nat → Int64) (c : Int64) (lo hi k : Nat) : (Nat × Nat) ⊕ (Int32 × Nat) := zbd (zp_kw tn ts tp tv c k) fun k1 => zp_num tn ts tp tv lo hi k1
/-- BasketKeepModel.after -/
theorem zm_after (hM : zk_MA Ls xs tn ts tp tv E B) {a n : Nat} {c : Int64} (hW : zWs Ls xs a n c) {k lo hi : Nat} (hlo : lo < 1000) (hhi : hi < 1000) (hs : zMs tn ts tp tv E B k u) : ∃ u', zk_Cr zk_mt zk_ex Ls xs 290 [.ref 69, .retAddr a, .int (nI lo), .int (nI hi)] (zH u w t) (some (.int (zsv2 lo (zp_aft tn ts tp tv c lo hi k))), zH u' w t) ∧ zMg u u' ∧ zR2 tn ts tp tv E B (zp_aft tn ts tp tv c lo hi k) u' := by
  obtain ⟨u1, h1, g1, r1⟩ := zm_must (w := w) (t := t) hM hW hs
  cases hz : zp_kw tn ts tp tv c k with
  | inl k1 =>
    rw [hz] at r1
    obtain ⟨u2, h2, g2, r2⟩ := zm_number (w := w) (t := t) hM hlo hhi r1
    rw [show zp_aft tn ts tp tv c lo hi k = zp_num tn ts tp tv lo hi k1 by unfold zp_aft; rw [hz]; rfl]
    exact ⟨u2, zm_after_c a (nI lo) (nI hi) h1 h2, g1.trans g2, r2⟩
  | inr e =>
    rw [hz] at r1
    obtain ⟨f, p⟩ := e
    rw [show zp_aft tn ts tp tv c lo hi k = .inr (f, p) by unfold zp_aft; rw [hz]; rfl]
    exact ⟨u1, zm_after_c a (nI lo) (nI hi) h1 (zm_number_x (nI lo) (nI hi) r1.1), g1, r1⟩
/-- BasketKeepModel.begins -/
theorem zm_begins_0 (a : Nat) (x : Int32) (hi : zk_Cr zk_mt zk_ex Ls xs 225 [.ref 69, .retAddr a] (zH u w t) (some (.int 0), zH u w t)) : zk_Cr zk_mt zk_ex Ls xs 239 [.ref 69, .retAddr a, .int x] (zH u w t) (some (.int 0), zH u w t) := by
  refine zk_Cr.of (K := zm_239) rfl rfl rfl ?_
  show zk_T zk_mt zk_ex Ls xs zm_239 (0, [(0, .ref 69), (1, .retAddr a), (2, .int x)], []) (zH u w t) _
  refine zk_T.adv 2 (f' := (2, [(0, .ref 69), (1, .retAddr a), (2, .int x)], [.retAddr a, .ref 69])) (h' := zH u w t) rfl ?_
  refine zk_T.cl (v := some (.int 0)) (h' := zH u w t) rfl hi ?_
  show zk_T zk_mt zk_ex Ls xs zm_239 (5, [(0, .ref 69), (1, .retAddr a), (2, .int x)], [.int 0]) (zH u w t) _
  refine zk_T.br (f1 := (8, [(0, .ref 69), (1, .retAddr a), (2, .int x)], [])) (f2 := (10, [(0, .ref 69), (1, .retAddr a), (2, .int x)], [])) rfl (fun c1 => ?_) (fun c1 => absurd (by decide) (of_decide_eq_false c1))
  refine zk_T.adv 1 (f' := (9, [(0, .ref 69), (1, .retAddr a), (2, .int x)], [.int 0])) (h' := zH u w t) rfl ?_
  exact zk_T.rt rfl rfl (by rfl)
/-- BasketKeepModel.begins -/
theorem zm_begins_f (a : Nat) (hf : u 68 13 = 0) (hi : zk_Cr zk_mt zk_ex Ls xs 225 [.ref 69, .retAddr a] (zH u w t) (some (.int 1), zH u w t)) : zk_Cr zk_mt zk_ex Ls xs 239 [.ref 69, .retAddr a, .int 0] (zH u w t) (some (.int 1), zH (zb u 68 (upd (upd (upd (u 68) 9 5) 10 (u 68 4)) 13 1)) w t) := by
  refine zk_Cr.of (K := zm_239) rfl rfl rfl ?_
  show zk_T zk_mt zk_ex Ls xs zm_239 (0, [(0, .ref 69), (1, .retAddr a), (2, .int 0)], []) (zH u w t) _
  refine zk_T.adv 2 (f' := (2, [(0, .ref 69), (1, .retAddr a), (2, .int 0)], [.retAddr a, .ref 69])) (h' := zH u w t) rfl ?_
  refine zk_T.cl (v := some (.int 1)) (h' := zH u w t) rfl hi ?_
  show zk_T zk_mt zk_ex Ls xs zm_239 (5, [(0, .ref 69), (1, .retAddr a), (2, .int 0)], [.int 1]) (zH u w t) _
  refine zk_T.br (f1 := (8, [(0, .ref 69), (1, .retAddr a), (2, .int 0)], [])) (f2 := (10, [(0, .ref 69), (1, .retAddr a), (2, .int 0)], [])) rfl (fun c1 => absurd (of_decide_eq_true c1) (by decide)) (fun c1 => ?_)
  refine zk_T.adv 1 (f' := (11, [(0, .ref 69), (1, .retAddr a), (2, .int 0)], [.int 0])) (h' := zH u w t) rfl ?_
  refine zk_T.br (f1 := (14, [(0, .ref 69), (1, .retAddr a), (2, .int 0)], [])) (f2 := (23, [(0, .ref 69), (1, .retAddr a), (2, .int 0)], [])) rfl (fun c2 => ?_) (fun c2 => absurd (by decide) (of_decide_eq_false c2))
  refine zk_T.adv 4 (f' := (20, [(0, .ref 69), (1, .retAddr a), (2, .int 0)], [.int (u 68 4), .int 5, .ref 69])) (h' := zH u w t) rfl ?_
  refine zk_T.cl (v := none) (h' := zH (zb u 68 (upd (upd (upd (u 68) 9 5) 10 (u 68 4)) 13 1)) w t) rfl (zs_mwrong_0 (v := u) (w := w) hf 5 (u 68 4)) ?_
  show zk_T zk_mt zk_ex Ls xs zm_239 (23, [(0, .ref 69), (1, .retAddr a), (2, .int 0)], []) (zH (zb u 68 (upd (upd (upd (u 68) 9 5) 10 (u 68 4)) 13 1)) w t) _
  refine zk_T.adv 3 (f' := (29, [(0, .ref 69), (1, .retAddr a), (2, .int 0)], [.int 6, .ref 73])) (h' := zH (zb u 68 (upd (upd (upd (u 68) 9 5) 10 (u 68 4)) 13 1)) w t) rfl ?_
  refine zk_T.ob (f' := (30, [(0, .ref 69), (1, .retAddr a), (2, .int 0)], [.int (u 72 (6 : Int32).toNatClampNeg)])) (h' := zH (zb u 68 (upd (upd (upd (u 68) 9 5) 10 (u 68 4)) 13 1)) w t) rfl rfl ?_
  show zk_T zk_mt zk_ex Ls xs zm_239 (30, [(0, .ref 69), (1, .retAddr a), (2, .int 0)], [.int (u 72 6)]) (zH (zb u 68 (upd (upd (upd (u 68) 9 5) 10 (u 68 4)) 13 1)) w t) _
  refine zk_T.br (f1 := (33, [(0, .ref 69), (1, .retAddr a), (2, .int 0)], [])) (f2 := (43, [(0, .ref 69), (1, .retAddr a), (2, .int 0)], [])) rfl (fun c3 => ?_) (fun c3 => ?_)
  · have c3 : (u 72 6) = 0 := of_decide_eq_true c3
    refine zk_T.adv 4 (f' := (40, [(0, .ref 69), (1, .retAddr a), (2, .int 0)], [.int (u 68 4), .int 6, .ref 69])) (h' := zH (zb u 68 (upd (upd (upd (u 68) 9 5) 10 (u 68 4)) 13 1)) w t) rfl ?_
    refine zk_T.cl (v := none) (h' := zH (zb u 68 (upd (upd (upd (u 68) 9 5) 10 (u 68 4)) 13 1)) w t) rfl (zs_mwrong_1 (v := (zb u 68 (upd (upd (upd (u 68) 9 5) 10 (u 68 4)) 13 1))) (w := w) rfl 6 (u 68 4)) ?_
    show zk_T zk_mt zk_ex Ls xs zm_239 (43, [(0, .ref 69), (1, .retAddr a), (2, .int 0)], []) (zH (zb u 68 (upd (upd (upd (u 68) 9 5) 10 (u 68 4)) 13 1)) w t) _
    refine zk_T.adv 1 (f' := (44, [(0, .ref 69), (1, .retAddr a), (2, .int 0)], [.ref 69])) (h' := zH (zb u 68 (upd (upd (upd (u 68) 9 5) 10 (u 68 4)) 13 1)) w t) rfl ?_
    refine zk_T.cl (v := none) (h' := zH (zb u 68 (upd (upd (upd (u 68) 9 5) 10 (u 68 4)) 13 1)) w t) rfl (zm_pass_x (u := (zb u 68 (upd (upd (upd (u 68) 9 5) 10 (u 68 4)) 13 1))) rfl) ?_
    show zk_T zk_mt zk_ex Ls xs zm_239 (47, [(0, .ref 69), (1, .retAddr a), (2, .int 0)], []) (zH (zb u 68 (upd (upd (upd (u 68) 9 5) 10 (u 68 4)) 13 1)) w t) _
    refine zk_T.adv 1 (f' := (48, [(0, .ref 69), (1, .retAddr a), (2, .int 0)], [.int 1])) (h' := zH (zb u 68 (upd (upd (upd (u 68) 9 5) 10 (u 68 4)) 13 1)) w t) rfl ?_
    exact zk_T.rt rfl rfl (by simp only [if_pos c3])
  · have c3 : ¬ ((u 72 6) = 0) := of_decide_eq_false c3
    refine zk_T.adv 1 (f' := (44, [(0, .ref 69), (1, .retAddr a), (2, .int 0)], [.ref 69])) (h' := zH (zb u 68 (upd (upd (upd (u 68) 9 5) 10 (u 68 4)) 13 1)) w t) rfl ?_
    refine zk_T.cl (v := none) (h' := zH (zb u 68 (upd (upd (upd (u 68) 9 5) 10 (u 68 4)) 13 1)) w t) rfl (zm_pass_x (u := (zb u 68 (upd (upd (upd (u 68) 9 5) 10 (u 68 4)) 13 1))) rfl) ?_
    show zk_T zk_mt zk_ex Ls xs zm_239 (47, [(0, .ref 69), (1, .retAddr a), (2, .int 0)], []) (zH (zb u 68 (upd (upd (upd (u 68) 9 5) 10 (u 68 4)) 13 1)) w t) _
    refine zk_T.adv 1 (f' := (48, [(0, .ref 69), (1, .retAddr a), (2, .int 0)], [.int 1])) (h' := zH (zb u 68 (upd (upd (upd (u 68) 9 5) 10 (u 68 4)) 13 1)) w t) rfl ?_
    exact zk_T.rt rfl rfl (by simp only [if_neg c3])
/-- BasketKeepModel.begins -/
theorem zm_begins_u (a : Nat) (hf : u 68 13 = 0) (h6 : u 72 6 = 0) (hi : zk_Cr zk_mt zk_ex Ls xs 225 [.ref 69, .retAddr a] (zH u w t) (some (.int 1), zH u w t)) : zk_Cr zk_mt zk_ex Ls xs 239 [.ref 69, .retAddr a, .int 1] (zH u w t) (some (.int 1), zH (zb u 68 (upd (upd (upd (u 68) 9 6) 10 (u 68 4)) 13 1)) w t) := by
  refine zk_Cr.of (K := zm_239) rfl rfl rfl ?_
  show zk_T zk_mt zk_ex Ls xs zm_239 (0, [(0, .ref 69), (1, .retAddr a), (2, .int 1)], []) (zH u w t) _
  refine zk_T.adv 2 (f' := (2, [(0, .ref 69), (1, .retAddr a), (2, .int 1)], [.retAddr a, .ref 69])) (h' := zH u w t) rfl ?_
  refine zk_T.cl (v := some (.int 1)) (h' := zH u w t) rfl hi ?_
  show zk_T zk_mt zk_ex Ls xs zm_239 (5, [(0, .ref 69), (1, .retAddr a), (2, .int 1)], [.int 1]) (zH u w t) _
  refine zk_T.br (f1 := (8, [(0, .ref 69), (1, .retAddr a), (2, .int 1)], [])) (f2 := (10, [(0, .ref 69), (1, .retAddr a), (2, .int 1)], [])) rfl (fun c1 => absurd (of_decide_eq_true c1) (by decide)) (fun c1 => ?_)
  refine zk_T.adv 1 (f' := (11, [(0, .ref 69), (1, .retAddr a), (2, .int 1)], [.int 1])) (h' := zH u w t) rfl ?_
  refine zk_T.br (f1 := (14, [(0, .ref 69), (1, .retAddr a), (2, .int 1)], [])) (f2 := (23, [(0, .ref 69), (1, .retAddr a), (2, .int 1)], [])) rfl (fun c2 => absurd (of_decide_eq_true c2) (by decide)) (fun c2 => ?_)
  refine zk_T.adv 3 (f' := (29, [(0, .ref 69), (1, .retAddr a), (2, .int 1)], [.int 6, .ref 73])) (h' := zH u w t) rfl ?_
  refine zk_T.ob (f' := (30, [(0, .ref 69), (1, .retAddr a), (2, .int 1)], [.int (u 72 (6 : Int32).toNatClampNeg)])) (h' := zH u w t) rfl rfl ?_
  show zk_T zk_mt zk_ex Ls xs zm_239 (30, [(0, .ref 69), (1, .retAddr a), (2, .int 1)], [.int (u 72 6)]) (zH u w t) _
  rw [h6]
  refine zk_T.br (f1 := (33, [(0, .ref 69), (1, .retAddr a), (2, .int 1)], [])) (f2 := (43, [(0, .ref 69), (1, .retAddr a), (2, .int 1)], [])) rfl (fun c3 => ?_) (fun c3 => absurd (by decide) (of_decide_eq_false c3))
  refine zk_T.adv 4 (f' := (40, [(0, .ref 69), (1, .retAddr a), (2, .int 1)], [.int (u 68 4), .int 6, .ref 69])) (h' := zH u w t) rfl ?_
  refine zk_T.cl (v := none) (h' := zH (zb u 68 (upd (upd (upd (u 68) 9 6) 10 (u 68 4)) 13 1)) w t) rfl (zs_mwrong_0 (v := u) (w := w) hf 6 (u 68 4)) ?_
  show zk_T zk_mt zk_ex Ls xs zm_239 (43, [(0, .ref 69), (1, .retAddr a), (2, .int 1)], []) (zH (zb u 68 (upd (upd (upd (u 68) 9 6) 10 (u 68 4)) 13 1)) w t) _
  refine zk_T.adv 1 (f' := (44, [(0, .ref 69), (1, .retAddr a), (2, .int 1)], [.ref 69])) (h' := zH (zb u 68 (upd (upd (upd (u 68) 9 6) 10 (u 68 4)) 13 1)) w t) rfl ?_
  refine zk_T.cl (v := none) (h' := zH (zb u 68 (upd (upd (upd (u 68) 9 6) 10 (u 68 4)) 13 1)) w t) rfl (zm_pass_x (u := (zb u 68 (upd (upd (upd (u 68) 9 6) 10 (u 68 4)) 13 1))) rfl) ?_
  show zk_T zk_mt zk_ex Ls xs zm_239 (47, [(0, .ref 69), (1, .retAddr a), (2, .int 1)], []) (zH (zb u 68 (upd (upd (upd (u 68) 9 6) 10 (u 68 4)) 13 1)) w t) _
  refine zk_T.adv 1 (f' := (48, [(0, .ref 69), (1, .retAddr a), (2, .int 1)], [.int 1])) (h' := zH (zb u 68 (upd (upd (upd (u 68) 9 6) 10 (u 68 4)) 13 1)) w t) rfl ?_
  exact zk_T.rt rfl rfl (by rfl)
/-- BasketKeepModel.begins -/
theorem zm_begins_1 (a : Nat) {u' : Nat → Nat → Int32} (hf : u 68 13 = 0) (h6 : u 72 6 = 1) (hi : zk_Cr zk_mt zk_ex Ls xs 225 [.ref 69, .retAddr a] (zH u w t) (some (.int 1), zH u w t)) (hp : zk_Cr zk_mt zk_ex Ls xs 173 [.ref 69] (zH u w t) (none, zH u' w t)) : zk_Cr zk_mt zk_ex Ls xs 239 [.ref 69, .retAddr a, .int 1] (zH u w t) (some (.int 1), zH u' w t) := by
  refine zk_Cr.of (K := zm_239) rfl rfl rfl ?_
  show zk_T zk_mt zk_ex Ls xs zm_239 (0, [(0, .ref 69), (1, .retAddr a), (2, .int 1)], []) (zH u w t) _
  refine zk_T.adv 2 (f' := (2, [(0, .ref 69), (1, .retAddr a), (2, .int 1)], [.retAddr a, .ref 69])) (h' := zH u w t) rfl ?_
  refine zk_T.cl (v := some (.int 1)) (h' := zH u w t) rfl hi ?_
  show zk_T zk_mt zk_ex Ls xs zm_239 (5, [(0, .ref 69), (1, .retAddr a), (2, .int 1)], [.int 1]) (zH u w t) _
  refine zk_T.br (f1 := (8, [(0, .ref 69), (1, .retAddr a), (2, .int 1)], [])) (f2 := (10, [(0, .ref 69), (1, .retAddr a), (2, .int 1)], [])) rfl (fun c1 => absurd (of_decide_eq_true c1) (by decide)) (fun c1 => ?_)
  refine zk_T.adv 1 (f' := (11, [(0, .ref 69), (1, .retAddr a), (2, .int 1)], [.int 1])) (h' := zH u w t) rfl ?_
  refine zk_T.br (f1 := (14, [(0, .ref 69), (1, .retAddr a), (2, .int 1)], [])) (f2 := (23, [(0, .ref 69), (1, .retAddr a), (2, .int 1)], [])) rfl (fun c2 => absurd (of_decide_eq_true c2) (by decide)) (fun c2 => ?_)
  refine zk_T.adv 3 (f' := (29, [(0, .ref 69), (1, .retAddr a), (2, .int 1)], [.int 6, .ref 73])) (h' := zH u w t) rfl ?_
  refine zk_T.ob (f' := (30, [(0, .ref 69), (1, .retAddr a), (2, .int 1)], [.int (u 72 (6 : Int32).toNatClampNeg)])) (h' := zH u w t) rfl rfl ?_
  show zk_T zk_mt zk_ex Ls xs zm_239 (30, [(0, .ref 69), (1, .retAddr a), (2, .int 1)], [.int (u 72 6)]) (zH u w t) _
  rw [h6]
  refine zk_T.br (f1 := (33, [(0, .ref 69), (1, .retAddr a), (2, .int 1)], [])) (f2 := (43, [(0, .ref 69), (1, .retAddr a), (2, .int 1)], [])) rfl (fun c3 => absurd (of_decide_eq_true c3) (by decide)) (fun c3 => ?_)
  refine zk_T.adv 1 (f' := (44, [(0, .ref 69), (1, .retAddr a), (2, .int 1)], [.ref 69])) (h' := zH u w t) rfl ?_
  refine zk_T.cl (v := none) (h' := zH u' w t) rfl hp ?_
  show zk_T zk_mt zk_ex Ls xs zm_239 (47, [(0, .ref 69), (1, .retAddr a), (2, .int 1)], []) (zH u' w t) _
  refine zk_T.adv 1 (f' := (48, [(0, .ref 69), (1, .retAddr a), (2, .int 1)], [.int 1])) (h' := zH u' w t) rfl ?_
  exact zk_T.rt rfl rfl (by rfl)
end Z61
