/-! contracts: the reference: odds, acts, what is told -/
section Z56
variable {Ls : Nat} {xs : Nat → Int32} {v : Nat → Nat → Int32} {w : Nat → Nat → Int64} {t : zk_H}
theorem zk_lgN {y : Nat} (h : ¬ lg_cmp (lN y) 0 = 0) : 0 < y := by
  cases y with
  | zero => exact absurd (by decide) h
  | succ n => exact Nat.succ_pos n
theorem zk_lgZ {y : Nat} (hy : y < 2 ^ 63) (h : lg_cmp (lN y) 0 = 0) : y = 0 := by
  cases y with
  | zero => rfl
  | succ n =>
    exfalso
    have h2 : lN (n + 1) > 0 := (pk_lLT (show 0 < 2 ^ 63 by decide) hy).mpr (Nat.succ_pos _)
    unfold lg_cmp at h
    rw [if_pos h2] at h
    exact absurd h (by decide)
def zl_mlowG  (s : Nat × Nat) : (Nat × Nat) ⊕ (Nat × Nat) := match s with
  | (x, y) => if (lg_cmp (lN y) 0) = 0 then .inr (x, y) else .inl (y, (x % y))
theorem zl_mlow (u d : Nat) (lo : Int32) : ∀ (n : Nat) (s : Nat × Nat) (q : Option Value × zk_H), (0 < s.1 ∧ s.1 < 2 ^ 63 ∧ s.2 < 2 ^ 63) → s.2 < n → zk_T zk_mt zk_ex Ls xs zm_56 ((fun (s : Nat × Nat) => ((31, [(0, .long (lN u)), (2, .long (lN d)), (4, .int lo), (5, .long (lN s.1)), (7, .long (lN s.2))], []) : zk_F)) (zw (zl_mlowG ) n s)) ((fun (s : Nat × Nat) => zH v w t) (zw (zl_mlowG ) n s)) q → zk_T zk_mt zk_ex Ls xs zm_56 (6, [(0, .long (lN u)), (2, .long (lN d)), (4, .int lo), (5, .long (lN s.1)), (7, .long (lN s.2))], []) (zH v w t) q := by
  intro n s q hP0 hn hk
  refine zk_whl (M := zm_56) (fun (s : Nat × Nat) => (6, [(0, .long (lN u)), (2, .long (lN d)), (4, .int lo), (5, .long (lN s.1)), (7, .long (lN s.2))], [])) (fun (s : Nat × Nat) => zH v w t) (fun (s : Nat × Nat) => (31, [(0, .long (lN u)), (2, .long (lN d)), (4, .int lo), (5, .long (lN s.1)), (7, .long (lN s.2))], [])) (fun (s : Nat × Nat) => zH v w t) (zl_mlowG ) (fun (s : Nat × Nat) => (0 < s.1 ∧ s.1 < 2 ^ 63 ∧ s.2 < 2 ^ 63)) (fun (s : Nat × Nat) => s.2) (fun s s' hp hg => ?_) (fun s hp q hk => ?_) n s hP0 hn q hk
  · obtain ⟨x, y⟩ := s
    have hp : (0 < x ∧ x < 2 ^ 63 ∧ y < 2 ^ 63) := hp
    show (0 < s'.1 ∧ s'.1 < 2 ^ 63 ∧ s'.2 < 2 ^ 63) ∧ s'.2 < y
    unfold zl_mlowG at hg
    dsimp only at hg
    split at hg
    · cases hg
    · rename_i c
      have hy := zk_lgN c
      cases hg
      have hlt : x % y < y := Nat.mod_lt _ hy
      exact ⟨⟨hy, hp.2.2, by omega⟩, hlt⟩
  · obtain ⟨x, y⟩ := s
    have hp : (0 < x ∧ x < 2 ^ 63 ∧ y < 2 ^ 63) := hp
    show zk_T zk_mt zk_ex Ls xs zm_56 (6, [(0, .long (lN u)), (2, .long (lN d)), (4, .int lo), (5, .long (lN x)), (7, .long (lN y))], []) (zH v w t) q
    refine zk_T.adv 3 (f' := (10, [(0, .long (lN u)), (2, .long (lN d)), (4, .int lo), (5, .long (lN x)), (7, .long (lN y))], [.int (lg_cmp (lN y) 0)])) (h' := zH v w t) rfl ?_
    refine zk_T.br (f1 := (31, [(0, .long (lN u)), (2, .long (lN d)), (4, .int lo), (5, .long (lN x)), (7, .long (lN y))], [])) (f2 := (13, [(0, .long (lN u)), (2, .long (lN d)), (4, .int lo), (5, .long (lN x)), (7, .long (lN y))], [])) rfl (fun c1 => ?_) (fun c1 => ?_)
    · have c1 : (lg_cmp (lN y) 0) = 0 := of_decide_eq_true c1
      simp only [zl_mlowG, zk_or, if_pos c1] at hk
      exact hk
    · have c1 : ¬ ((lg_cmp (lN y) 0) = 0) := of_decide_eq_false c1
      refine zk_T.adv 2 (f' := (17, [(0, .long (lN u)), (2, .long (lN d)), (4, .int lo), (5, .long (lN x)), (7, .long (lN y))], [.long (lN y), .long (lN x)])) (h' := zH v w t) rfl ?_
      refine zk_T.ob (f' := (18, [(0, .long (lN u)), (2, .long (lN d)), (4, .int lo), (5, .long (lN x)), (7, .long (lN y))], [.long ((lN x) - (lN x) / (lN y) * (lN y))])) (h' := zH v w t) rfl (decide_eq_true (fun z => absurd (zk_lgN (by assumption)) (by have z2 := (pk_lEQ hp.2.2 (show 0 < 2 ^ 63 by decide)).mp z; omega))) ?_
      rw [show (lN x) - (lN x) / (lN y) * (lN y) = lN (x % y) from pk_lRem hp.2.1 (zk_lgN (by assumption)) hp.2.2]
      refine zk_T.adv 6 (f' := (6, [(0, .long (lN u)), (2, .long (lN d)), (4, .int lo), (5, .long (lN y)), (7, .long (lN (x % y)))], [])) (h' := zH v w t) rfl ?_
      simp only [zl_mlowG, zk_or, if_neg c1] at hk
      exact hk
theorem zl_mlowE : ∀ (n x y : Nat), y < 2 ^ 63 → x < 2 ^ 63 → y < n → (zw (zl_mlowG ) n (x, y)).1 = Nat.gcd x y
  | 0, x, y, _, _, h => absurd h (Nat.not_lt_zero _)
  | n + 1, x, y, hy, hx, h => by
    unfold zw zl_mlowG
    dsimp only
    by_cases c : lg_cmp (lN y) 0 = 0
    · rw [if_pos c, zk_lgZ hy c, Nat.gcd_zero_right]
    · rw [if_neg c]
      have h0 := zk_lgN c
      have hlt : x % y < y := Nat.mod_lt _ h0
      show (zw (zl_mlowG ) n (y, x % y)).1 = _
      rw [zl_mlowE n y (x % y) (by omega) hy (by omega), Nat.gcd_comm x y, Nat.gcd_rec y x, Nat.gcd_comm]
def zr_mlow (u d : Nat) (lo : Int32) : Int64 := if lo = 0 then lN (u / Nat.gcd d u) else lN (d / Nat.gcd d u)
/-- BasketKeepModel.lowest -/
theorem zs_mlowest (u d : Nat) (hu : u < 2 ^ 63) (hd : 0 < d) (hd2 : d < 2 ^ 63) (lo : Int32) : zk_Cr zk_mt zk_ex Ls xs 56 [.long (lN u), .long (lN d), .int lo] (zH v w t) (some (.long (zr_mlow u d lo)), zH v w t) := by
  refine zk_Cr.of (K := zm_56) rfl rfl rfl ?_
  show zk_T zk_mt zk_ex Ls xs zm_56 (0, [(0, .long (lN u)), (2, .long (lN d)), (4, .int lo)], []) (zH v w t) _
  refine zk_T.adv 4 (f' := (6, [(0, .long (lN u)), (2, .long (lN d)), (4, .int lo), (5, .long (lN d)), (7, .long (lN u))], [])) (h' := zH v w t) rfl ?_
  refine zl_mlow (v := v) (w := w) (t := t) u d lo (u + 1) (d, u) _ ⟨hd, hd2, hu⟩ (by omega) ?_
  have hg0 : 0 < Nat.gcd d u := Nat.gcd_pos_of_pos_left _ hd
  have hg2 : Nat.gcd d u < 2 ^ 63 := Nat.lt_of_le_of_lt (Nat.gcd_le_left _ hd) hd2
  simp only [zl_mlowE _ _ _ hu hd2 (show u < u + 1 by omega)]
  show zk_T zk_mt zk_ex Ls xs zm_56 (31, [(0, .long (lN u)), (2, .long (lN d)), (4, .int lo), (5, .long (lN ((Nat.gcd d u)))), (7, .long (lN ((zw (zl_mlowG ) (u + 1) (d, u)).2)))], []) (zH v w t) _
  refine zk_T.adv 1 (f' := (33, [(0, .long (lN u)), (2, .long (lN d)), (4, .int lo), (5, .long (lN ((Nat.gcd d u)))), (7, .long (lN ((zw (zl_mlowG ) (u + 1) (d, u)).2)))], [.int lo])) (h' := zH v w t) rfl ?_
  refine zk_T.br (f1 := (40, [(0, .long (lN u)), (2, .long (lN d)), (4, .int lo), (5, .long (lN ((Nat.gcd d u)))), (7, .long (lN ((zw (zl_mlowG ) (u + 1) (d, u)).2)))], [])) (f2 := (36, [(0, .long (lN u)), (2, .long (lN d)), (4, .int lo), (5, .long (lN ((Nat.gcd d u)))), (7, .long (lN ((zw (zl_mlowG ) (u + 1) (d, u)).2)))], [])) rfl (fun c1 => ?_) (fun c1 => ?_)
  · have c1 : lo = 0 := of_decide_eq_true c1
    refine zk_T.adv 2 (f' := (43, [(0, .long (lN u)), (2, .long (lN d)), (4, .int lo), (5, .long (lN ((Nat.gcd d u)))), (7, .long (lN ((zw (zl_mlowG ) (u + 1) (d, u)).2)))], [.long (lN ((Nat.gcd d u))), .long (lN u)])) (h' := zH v w t) rfl ?_
    refine zk_T.ob (f' := (44, [(0, .long (lN u)), (2, .long (lN d)), (4, .int lo), (5, .long (lN ((Nat.gcd d u)))), (7, .long (lN ((zw (zl_mlowG ) (u + 1) (d, u)).2)))], [.long ((lN u) / (lN ((Nat.gcd d u))))])) (h' := zH v w t) rfl (decide_eq_true (fun z => by have z2 := (pk_lEQ hg2 (show 0 < 2 ^ 63 by decide)).mp z; omega)) ?_
    exact zk_T.rt rfl rfl (by simp only [zr_mlow, if_pos c1]; first | rw [pk_lDiv hu hg0 hg2] | rw [pk_lDiv hd2 hg0 hg2])
  · have c1 : ¬ (lo = 0) := of_decide_eq_false c1
    refine zk_T.adv 3 (f' := (43, [(0, .long (lN u)), (2, .long (lN d)), (4, .int lo), (5, .long (lN ((Nat.gcd d u)))), (7, .long (lN ((zw (zl_mlowG ) (u + 1) (d, u)).2)))], [.long (lN ((Nat.gcd d u))), .long (lN d)])) (h' := zH v w t) rfl ?_
    refine zk_T.ob (f' := (44, [(0, .long (lN u)), (2, .long (lN d)), (4, .int lo), (5, .long (lN ((Nat.gcd d u)))), (7, .long (lN ((zw (zl_mlowG ) (u + 1) (d, u)).2)))], [.long ((lN d) / (lN ((Nat.gcd d u))))])) (h' := zH v w t) rfl (decide_eq_true (fun z => by have z2 := (pk_lEQ hg2 (show 0 < 2 ^ 63 by decide)).mp z; omega)) ?_
    exact zk_T.rt rfl rfl (by simp only [zr_mlow, if_neg c1]; first | rw [pk_lDiv hu hg0 hg2] | rw [pk_lDiv hd2 hg0 hg2])
/-- BasketKeepModel.odds -/
theorem zM_odds_t (x y z : Int32) (hg : zr_misX (v 68 14) (v 71 3) x = 0) : zk_Cr zk_mt zk_ex Ls xs 271 [.ref 69, .int x, .int y, .int z] (zH v w t) (some (.long (((-1) : Int32).toInt64)), zH (zb v 68 (upd (upd (v 68) 0 0) 11 1)) w t) := by
  refine zk_Cr.of (K := zm_271) rfl rfl rfl ?_
  show zk_T zk_mt zk_ex Ls xs zm_271 (0, [(0, .ref 69), (1, .int x), (2, .int y), (3, .int z)], []) (zH v w t) _
  refine zk_T.adv 1 (f' := (1, [(0, .ref 69), (1, .int x), (2, .int y), (3, .int z)], [.ref 69])) (h' := zH v w t) rfl ?_
  refine zk_T.cl (v := none) (h' := zH (zb v 68 (upd (upd (v 68) 0 0) 11 0)) w t) rfl (zs_manew (v := v) (w := w)) ?_
  show zk_T zk_mt zk_ex Ls xs zm_271 (4, [(0, .ref 69), (1, .int x), (2, .int y), (3, .int z)], []) (zH (zb v 68 (upd (upd (v 68) 0 0) 11 0)) w t) _
  refine zk_T.adv 3 (f' := (7, [(0, .ref 69), (1, .int x), (2, .int y), (3, .int z)], [.int x, .ref 69, .ref 69])) (h' := zH (zb v 68 (upd (upd (v 68) 0 0) 11 0)) w t) rfl ?_
  refine zk_T.cl (v := some (.int 0)) (h' := zH (zb v 68 (upd (upd (v 68) 0 0) 11 0)) w t) rfl (by have ee_ : zk_Cr zk_mt zk_ex Ls xs 117 [.ref 69, .int x] (zH (zb v 68 (upd (upd (v 68) 0 0) 11 0)) w t) (some (.int (zr_misX (v 68 14) (v 71 3) x)), zH (zb v 68 (upd (upd (v 68) 0 0) 11 0)) w t) := zs_misGood (v := (zb v 68 (upd (upd (v 68) 0 0) 11 0))) (w := w) x; rw [show (zr_misX (v 68 14) (v 71 3) x) = 0 from hg] at ee_; exact ee_) ?_
  show zk_T zk_mt zk_ex Ls xs zm_271 (10, [(0, .ref 69), (1, .int x), (2, .int y), (3, .int z)], [.int 0, .ref 69]) (zH (zb v 68 (upd (upd (v 68) 0 0) 11 0)) w t) _
  refine zk_T.adv 1 (f' := (11, [(0, .ref 69), (1, .int x), (2, .int y), (3, .int z)], [.int y, .int 0, .ref 69])) (h' := zH (zb v 68 (upd (upd (v 68) 0 0) 11 0)) w t) rfl ?_
  refine zk_T.cl (v := some (.int 1)) (h' := zH (zb v 68 (upd (upd (v 68) 0 0) 11 0)) w t) rfl (zs_maheadWhy (v := (zb v 68 (upd (upd (v 68) 0 0) 11 0))) (w := w) 0 y) ?_
  show zk_T zk_mt zk_ex Ls xs zm_271 (14, [(0, .ref 69), (1, .int x), (2, .int y), (3, .int z)], [.int 1]) (zH (zb v 68 (upd (upd (v 68) 0 0) 11 0)) w t) _
  refine zk_T.adv 2 (f' := (18, [(0, .ref 69), (1, .int x), (2, .int y), (3, .int z), (4, .int 1)], [.int 1])) (h' := zH (zb v 68 (upd (upd (v 68) 0 0) 11 0)) w t) rfl ?_
  refine zk_T.br (f1 := (29, [(0, .ref 69), (1, .int x), (2, .int y), (3, .int z), (4, .int 1)], [])) (f2 := (21, [(0, .ref 69), (1, .int x), (2, .int y), (3, .int z), (4, .int 1)], [])) rfl (fun c1 => absurd (of_decide_eq_true c1) (by decide)) (fun c1 => ?_)
  refine zk_T.adv 2 (f' := (24, [(0, .ref 69), (1, .int x), (2, .int y), (3, .int z), (4, .int 1)], [.int 1, .ref 69])) (h' := zH (zb v 68 (upd (upd (v 68) 0 0) 11 0)) w t) rfl ?_
  refine zk_T.cl (v := some (.int (-1))) (h' := zH (zb v 68 (upd (upd (v 68) 0 0) 11 1)) w t) rfl (zs_mno (v := (zb v 68 (upd (upd (v 68) 0 0) 11 0))) (w := w) 1) ?_
  show zk_T zk_mt zk_ex Ls xs zm_271 (27, [(0, .ref 69), (1, .int x), (2, .int y), (3, .int z), (4, .int 1)], [.int (-1)]) (zH (zb v 68 (upd (upd (v 68) 0 0) 11 1)) w t) _
  refine zk_T.adv 1 (f' := (28, [(0, .ref 69), (1, .int x), (2, .int y), (3, .int z), (4, .int 1)], [.long (((-1) : Int32).toInt64)])) (h' := zH (zb v 68 (upd (upd (v 68) 0 0) 11 1)) w t) rfl ?_
  exact zk_T.rt rfl rfl (by rfl)
/-- BasketKeepModel.odds -/
theorem zM_odds_o (y x z : Int32) (hg : zr_misX (v 68 14) (v 71 3) y = 1) (hw : zr_maheadWhy 1 x = 2) : zk_Cr zk_mt zk_ex Ls xs 271 [.ref 69, .int y, .int x, .int z] (zH v w t) (some (.long (((-1) : Int32).toInt64)), zH (zb v 68 (upd (upd (v 68) 0 0) 11 2)) w t) := by
  refine zk_Cr.of (K := zm_271) rfl rfl rfl ?_
  show zk_T zk_mt zk_ex Ls xs zm_271 (0, [(0, .ref 69), (1, .int y), (2, .int x), (3, .int z)], []) (zH v w t) _
  refine zk_T.adv 1 (f' := (1, [(0, .ref 69), (1, .int y), (2, .int x), (3, .int z)], [.ref 69])) (h' := zH v w t) rfl ?_
  refine zk_T.cl (v := none) (h' := zH (zb v 68 (upd (upd (v 68) 0 0) 11 0)) w t) rfl (zs_manew (v := v) (w := w)) ?_
  show zk_T zk_mt zk_ex Ls xs zm_271 (4, [(0, .ref 69), (1, .int y), (2, .int x), (3, .int z)], []) (zH (zb v 68 (upd (upd (v 68) 0 0) 11 0)) w t) _
  refine zk_T.adv 3 (f' := (7, [(0, .ref 69), (1, .int y), (2, .int x), (3, .int z)], [.int y, .ref 69, .ref 69])) (h' := zH (zb v 68 (upd (upd (v 68) 0 0) 11 0)) w t) rfl ?_
  refine zk_T.cl (v := some (.int 1)) (h' := zH (zb v 68 (upd (upd (v 68) 0 0) 11 0)) w t) rfl (by have ee_ : zk_Cr zk_mt zk_ex Ls xs 117 [.ref 69, .int y] (zH (zb v 68 (upd (upd (v 68) 0 0) 11 0)) w t) (some (.int (zr_misX (v 68 14) (v 71 3) y)), zH (zb v 68 (upd (upd (v 68) 0 0) 11 0)) w t) := zs_misGood (v := (zb v 68 (upd (upd (v 68) 0 0) 11 0))) (w := w) y; rw [show (zr_misX (v 68 14) (v 71 3) y) = 1 from hg] at ee_; exact ee_) ?_
  show zk_T zk_mt zk_ex Ls xs zm_271 (10, [(0, .ref 69), (1, .int y), (2, .int x), (3, .int z)], [.int 1, .ref 69]) (zH (zb v 68 (upd (upd (v 68) 0 0) 11 0)) w t) _
  refine zk_T.adv 1 (f' := (11, [(0, .ref 69), (1, .int y), (2, .int x), (3, .int z)], [.int x, .int 1, .ref 69])) (h' := zH (zb v 68 (upd (upd (v 68) 0 0) 11 0)) w t) rfl ?_
  refine zk_T.cl (v := some (.int 2)) (h' := zH (zb v 68 (upd (upd (v 68) 0 0) 11 0)) w t) rfl (by have ee_ : zk_Cr zk_mt zk_ex Ls xs 108 [.ref 69, .int 1, .int x] (zH (zb v 68 (upd (upd (v 68) 0 0) 11 0)) w t) (some (.int (zr_maheadWhy 1 x)), zH (zb v 68 (upd (upd (v 68) 0 0) 11 0)) w t) := zs_maheadWhy (v := (zb v 68 (upd (upd (v 68) 0 0) 11 0))) (w := w) 1 x; rw [show (zr_maheadWhy 1 x) = 2 from hw] at ee_; exact ee_) ?_
  show zk_T zk_mt zk_ex Ls xs zm_271 (14, [(0, .ref 69), (1, .int y), (2, .int x), (3, .int z)], [.int 2]) (zH (zb v 68 (upd (upd (v 68) 0 0) 11 0)) w t) _
  refine zk_T.adv 2 (f' := (18, [(0, .ref 69), (1, .int y), (2, .int x), (3, .int z), (4, .int 2)], [.int 2])) (h' := zH (zb v 68 (upd (upd (v 68) 0 0) 11 0)) w t) rfl ?_
  refine zk_T.br (f1 := (29, [(0, .ref 69), (1, .int y), (2, .int x), (3, .int z), (4, .int 2)], [])) (f2 := (21, [(0, .ref 69), (1, .int y), (2, .int x), (3, .int z), (4, .int 2)], [])) rfl (fun c1 => absurd (of_decide_eq_true c1) (by decide)) (fun c1 => ?_)
  refine zk_T.adv 2 (f' := (24, [(0, .ref 69), (1, .int y), (2, .int x), (3, .int z), (4, .int 2)], [.int 2, .ref 69])) (h' := zH (zb v 68 (upd (upd (v 68) 0 0) 11 0)) w t) rfl ?_
  refine zk_T.cl (v := some (.int (-1))) (h' := zH (zb v 68 (upd (upd (v 68) 0 0) 11 2)) w t) rfl (zs_mno (v := (zb v 68 (upd (upd (v 68) 0 0) 11 0))) (w := w) 2) ?_
  show zk_T zk_mt zk_ex Ls xs zm_271 (27, [(0, .ref 69), (1, .int y), (2, .int x), (3, .int z), (4, .int 2)], [.int (-1)]) (zH (zb v 68 (upd (upd (v 68) 0 0) 11 2)) w t) _
  refine zk_T.adv 1 (f' := (28, [(0, .ref 69), (1, .int y), (2, .int x), (3, .int z), (4, .int 2)], [.long (((-1) : Int32).toInt64)])) (h' := zH (zb v 68 (upd (upd (v 68) 0 0) 11 2)) w t) rfl ?_
  exact zk_T.rt rfl rfl (by rfl)
/-- BasketKeepModel.odds -/
theorem zM_odds_B (a : Nat) (ha : a < 4) (hg : zr_misX (v 68 14) (v 71 3) (nI a) = 1) (n : Nat) (hn : n ≤ 60) (D : Nat) (hD : v 71 1 = nI D) (h8 : D ≤ 8) (Gn : Nat) (hG : v 71 3 = nI Gn) (h4 : Gn ≤ 4) (hev : ∀ d, d < D → ¬ v 71 (7 + 2 * d) = 0) (hli : zk_lie Gn (v 75)) (hB : v 75 (10 + a) = 0) (T : Nat) (hT : nI T = 0) (hT8 : T < 256) (u d : Nat) (hlf : (zr_mtsB n D Gn (v 71) (v 75) a T (v 76) (v 68 26) (v 80) (v 81) (v 82) (v 79)).2.1 = lN u) (haw : (zr_mtsB n D Gn (v 71) (v 75) a T (v 76) (v 68 26) (v 80) (v 81) (v 82) (v 79)).1 = lN d) (hu : u < 2 ^ 63) (hd : 0 < d) (hd2 : d < 2 ^ 63) (z : Int32) : zk_Cr zk_mt zk_ex Ls xs 271 [.ref 69, .int (nI a), .int (nI n), .int z] (zH v w t) (some (.long (zr_mlow u d z)), zH (zb (zb (zb (zb (zb (zb v 68 (upd (upd (upd (v 68) 0 0) 11 0) 26 ((zr_mtsB n D Gn (v 71) (v 75) a T (v 76) (v 68 26) (v 80) (v 81) (v 82) (v 79)).2.2.2.1))) 76 (zr_mtsB n D Gn (v 71) (v 75) a T (v 76) (v 68 26) (v 80) (v 81) (v 82) (v 79)).2.2.1) 79 (zr_mtsB n D Gn (v 71) (v 75) a T (v 76) (v 68 26) (v 80) (v 81) (v 82) (v 79)).2.2.2.2.2.2.2) 80 (zr_mtsB n D Gn (v 71) (v 75) a T (v 76) (v 68 26) (v 80) (v 81) (v 82) (v 79)).2.2.2.2.1) 81 (zr_mtsB n D Gn (v 71) (v 75) a T (v 76) (v 68 26) (v 80) (v 81) (v 82) (v 79)).2.2.2.2.2.1) 82 (zr_mtsB n D Gn (v 71) (v 75) a T (v 76) (v 68 26) (v 80) (v 81) (v 82) (v 79)).2.2.2.2.2.2.1) (zb w 68 (vp_updL (vp_updL (w 68) 37 (lN d)) 38 (lN u))) t) := by
  refine zk_Cr.of (K := zm_271) rfl rfl rfl ?_
  show zk_T zk_mt zk_ex Ls xs zm_271 (0, [(0, .ref 69), (1, .int (nI a)), (2, .int (nI n)), (3, .int z)], []) (zH v w t) _
  refine zk_T.adv 1 (f' := (1, [(0, .ref 69), (1, .int (nI a)), (2, .int (nI n)), (3, .int z)], [.ref 69])) (h' := zH v w t) rfl ?_
  refine zk_T.cl (v := none) (h' := zH (zb v 68 (upd (upd (v 68) 0 0) 11 0)) w t) rfl (zs_manew (v := v) (w := w)) ?_
  show zk_T zk_mt zk_ex Ls xs zm_271 (4, [(0, .ref 69), (1, .int (nI a)), (2, .int (nI n)), (3, .int z)], []) (zH (zb v 68 (upd (upd (v 68) 0 0) 11 0)) w t) _
  refine zk_T.adv 3 (f' := (7, [(0, .ref 69), (1, .int (nI a)), (2, .int (nI n)), (3, .int z)], [.int (nI a), .ref 69, .ref 69])) (h' := zH (zb v 68 (upd (upd (v 68) 0 0) 11 0)) w t) rfl ?_
  refine zk_T.cl (v := some (.int 1)) (h' := zH (zb v 68 (upd (upd (v 68) 0 0) 11 0)) w t) rfl (by have ee_ : zk_Cr zk_mt zk_ex Ls xs 117 [.ref 69, .int (nI a)] (zH (zb v 68 (upd (upd (v 68) 0 0) 11 0)) w t) (some (.int (zr_misX (v 68 14) (v 71 3) (nI a))), zH (zb v 68 (upd (upd (v 68) 0 0) 11 0)) w t) := zs_misGood (v := (zb v 68 (upd (upd (v 68) 0 0) 11 0))) (w := w) (nI a); rw [show (zr_misX (v 68 14) (v 71 3) (nI a)) = 1 from hg] at ee_; exact ee_) ?_
  show zk_T zk_mt zk_ex Ls xs zm_271 (10, [(0, .ref 69), (1, .int (nI a)), (2, .int (nI n)), (3, .int z)], [.int 1, .ref 69]) (zH (zb v 68 (upd (upd (v 68) 0 0) 11 0)) w t) _
  refine zk_T.adv 1 (f' := (11, [(0, .ref 69), (1, .int (nI a)), (2, .int (nI n)), (3, .int z)], [.int (nI n), .int 1, .ref 69])) (h' := zH (zb v 68 (upd (upd (v 68) 0 0) 11 0)) w t) rfl ?_
  refine zk_T.cl (v := some (.int 0)) (h' := zH (zb v 68 (upd (upd (v 68) 0 0) 11 0)) w t) rfl (by have ee_ : zk_Cr zk_mt zk_ex Ls xs 108 [.ref 69, .int 1, .int (nI n)] (zH (zb v 68 (upd (upd (v 68) 0 0) 11 0)) w t) (some (.int (zr_maheadWhy 1 (nI n))), zH (zb v 68 (upd (upd (v 68) 0 0) 11 0)) w t) := zs_maheadWhy (v := (zb v 68 (upd (upd (v 68) 0 0) 11 0))) (w := w) 1 (nI n); rw [show (zr_maheadWhy 1 (nI n)) = 0 from (zk_ah1 n hn)] at ee_; exact ee_) ?_
  show zk_T zk_mt zk_ex Ls xs zm_271 (14, [(0, .ref 69), (1, .int (nI a)), (2, .int (nI n)), (3, .int z)], [.int 0]) (zH (zb v 68 (upd (upd (v 68) 0 0) 11 0)) w t) _
  refine zk_T.adv 2 (f' := (18, [(0, .ref 69), (1, .int (nI a)), (2, .int (nI n)), (3, .int z), (4, .int 0)], [.int 0])) (h' := zH (zb v 68 (upd (upd (v 68) 0 0) 11 0)) w t) rfl ?_
  refine zk_T.br (f1 := (29, [(0, .ref 69), (1, .int (nI a)), (2, .int (nI n)), (3, .int z), (4, .int 0)], [])) (f2 := (21, [(0, .ref 69), (1, .int (nI a)), (2, .int (nI n)), (3, .int z), (4, .int 0)], [])) rfl (fun c1 => ?_) (fun c1 => absurd (by decide) (of_decide_eq_false c1))
  refine zk_T.adv 3 (f' := (32, [(0, .ref 69), (1, .int (nI a)), (2, .int (nI n)), (3, .int z), (4, .int 0)], [.int (nI n), .int (nI a), .ref 69])) (h' := zH (zb v 68 (upd (upd (v 68) 0 0) 11 0)) w t) rfl ?_
  refine zk_T.cl (v := none) (h' := zH (zb (zb (zb (zb (zb (zb v 68 (upd (upd (upd (v 68) 0 0) 11 0) 26 ((zr_mtsB n D Gn (v 71) (v 75) a T (v 76) (v 68 26) (v 80) (v 81) (v 82) (v 79)).2.2.2.1))) 76 ((zr_mtsB n D Gn (v 71) (v 75) a T (v 76) (v 68 26) (v 80) (v 81) (v 82) (v 79)).2.2.1)) 79 ((zr_mtsB n D Gn (v 71) (v 75) a T (v 76) (v 68 26) (v 80) (v 81) (v 82) (v 79)).2.2.2.2.2.2.2)) 80 ((zr_mtsB n D Gn (v 71) (v 75) a T (v 76) (v 68 26) (v 80) (v 81) (v 82) (v 79)).2.2.2.2.1)) 81 ((zr_mtsB n D Gn (v 71) (v 75) a T (v 76) (v 68 26) (v 80) (v 81) (v 82) (v 79)).2.2.2.2.2.1)) 82 ((zr_mtsB n D Gn (v 71) (v 75) a T (v 76) (v 68 26) (v 80) (v 81) (v 82) (v 79)).2.2.2.2.2.2.1)) (zb w 68 (vp_updL (vp_updL (w 68) 37 ((zr_mtsB n D Gn (v 71) (v 75) a T (v 76) (v 68 26) (v 80) (v 81) (v 82) (v 79)).1)) 38 ((zr_mtsB n D Gn (v 71) (v 75) a T (v 76) (v 68 26) (v 80) (v 81) (v 82) (v 79)).2.1))) t) rfl (zs_mts_B (v := (zb v 68 (upd (upd (v 68) 0 0) 11 0))) (w := w) D hD h8 Gn hG h4 hev hli n hn a ha hB T hT hT8) ?_
  show zk_T zk_mt zk_ex Ls xs zm_271 (35, [(0, .ref 69), (1, .int (nI a)), (2, .int (nI n)), (3, .int z), (4, .int 0)], []) (zH (zb (zb (zb (zb (zb (zb v 68 (upd (upd (upd (v 68) 0 0) 11 0) 26 ((zr_mtsB n D Gn (v 71) (v 75) a T (v 76) (v 68 26) (v 80) (v 81) (v 82) (v 79)).2.2.2.1))) 76 ((zr_mtsB n D Gn (v 71) (v 75) a T (v 76) (v 68 26) (v 80) (v 81) (v 82) (v 79)).2.2.1)) 79 ((zr_mtsB n D Gn (v 71) (v 75) a T (v 76) (v 68 26) (v 80) (v 81) (v 82) (v 79)).2.2.2.2.2.2.2)) 80 ((zr_mtsB n D Gn (v 71) (v 75) a T (v 76) (v 68 26) (v 80) (v 81) (v 82) (v 79)).2.2.2.2.1)) 81 ((zr_mtsB n D Gn (v 71) (v 75) a T (v 76) (v 68 26) (v 80) (v 81) (v 82) (v 79)).2.2.2.2.2.1)) 82 ((zr_mtsB n D Gn (v 71) (v 75) a T (v 76) (v 68 26) (v 80) (v 81) (v 82) (v 79)).2.2.2.2.2.2.1)) (zb w 68 (vp_updL (vp_updL (w 68) 37 ((zr_mtsB n D Gn (v 71) (v 75) a T (v 76) (v 68 26) (v 80) (v 81) (v 82) (v 79)).1)) 38 ((zr_mtsB n D Gn (v 71) (v 75) a T (v 76) (v 68 26) (v 80) (v 81) (v 82) (v 79)).2.1))) t) _
  obtain ⟨bg1, hbg1⟩ : ∃ z, z = (zr_mtsB n D Gn (v 71) (v 75) a T (v 76) (v 68 26) (v 80) (v 81) (v 82) (v 79)) := ⟨_, rfl⟩
  rw [← hbg1]
  show zk_T zk_mt zk_ex Ls xs zm_271 (35, [(0, .ref 69), (1, .int (nI a)), (2, .int (nI n)), (3, .int z), (4, .int 0)], []) (zH (zb (zb (zb (zb (zb (zb v 68 (upd (upd (upd (v 68) 0 0) 11 0) 26 (bg1.2.2.2.1))) 76 bg1.2.2.1) 79 bg1.2.2.2.2.2.2.2) 80 bg1.2.2.2.2.1) 81 bg1.2.2.2.2.2.1) 82 bg1.2.2.2.2.2.2.1) (zb w 68 (vp_updL (vp_updL (w 68) 37 (bg1.1)) 38 (bg1.2.1))) t) _
  refine zk_T.adv 2 (f' := (39, [(0, .ref 69), (1, .int (nI a)), (2, .int (nI n)), (3, .int z), (4, .int 0)], [.long bg1.2.1])) (h' := zH (zb (zb (zb (zb (zb (zb v 68 (upd (upd (upd (v 68) 0 0) 11 0) 26 (bg1.2.2.2.1))) 76 bg1.2.2.1) 79 bg1.2.2.2.2.2.2.2) 80 bg1.2.2.2.2.1) 81 bg1.2.2.2.2.2.1) 82 bg1.2.2.2.2.2.2.1) (zb w 68 (vp_updL (vp_updL (w 68) 37 (bg1.1)) 38 (bg1.2.1))) t) rfl ?_
  rw [show bg1.2.1 = lN u from (by rw [hbg1]; exact hlf)]
  refine zk_T.adv 2 (f' := (43, [(0, .ref 69), (1, .int (nI a)), (2, .int (nI n)), (3, .int z), (4, .int 0)], [.long bg1.1, .long (lN u)])) (h' := zH (zb (zb (zb (zb (zb (zb v 68 (upd (upd (upd (v 68) 0 0) 11 0) 26 (bg1.2.2.2.1))) 76 bg1.2.2.1) 79 bg1.2.2.2.2.2.2.2) 80 bg1.2.2.2.2.1) 81 bg1.2.2.2.2.2.1) 82 bg1.2.2.2.2.2.2.1) (zb w 68 (vp_updL (vp_updL (w 68) 37 (bg1.1)) 38 (lN u))) t) rfl ?_
  rw [show bg1.1 = lN d from (by rw [hbg1]; exact haw)]
  refine zk_T.adv 1 (f' := (44, [(0, .ref 69), (1, .int (nI a)), (2, .int (nI n)), (3, .int z), (4, .int 0)], [.int z, .long (lN d), .long (lN u)])) (h' := zH (zb (zb (zb (zb (zb (zb v 68 (upd (upd (upd (v 68) 0 0) 11 0) 26 (bg1.2.2.2.1))) 76 bg1.2.2.1) 79 bg1.2.2.2.2.2.2.2) 80 bg1.2.2.2.2.1) 81 bg1.2.2.2.2.2.1) 82 bg1.2.2.2.2.2.2.1) (zb w 68 (vp_updL (vp_updL (w 68) 37 (lN d)) 38 (lN u))) t) rfl ?_
  refine zk_T.cl (v := some (.long (zr_mlow u d z))) (h' := zH (zb (zb (zb (zb (zb (zb v 68 (upd (upd (upd (v 68) 0 0) 11 0) 26 (bg1.2.2.2.1))) 76 bg1.2.2.1) 79 bg1.2.2.2.2.2.2.2) 80 bg1.2.2.2.2.1) 81 bg1.2.2.2.2.2.1) 82 bg1.2.2.2.2.2.2.1) (zb w 68 (vp_updL (vp_updL (w 68) 37 (lN d)) 38 (lN u))) t) rfl (zs_mlowest (v := (zb (zb (zb (zb (zb (zb v 68 (upd (upd (upd (v 68) 0 0) 11 0) 26 (bg1.2.2.2.1))) 76 bg1.2.2.1) 79 bg1.2.2.2.2.2.2.2) 80 bg1.2.2.2.2.1) 81 bg1.2.2.2.2.2.1) 82 bg1.2.2.2.2.2.2.1)) (w := (zb w 68 (vp_updL (vp_updL (w 68) 37 (lN d)) 38 (lN u)))) u d hu hd hd2 z) ?_
  show zk_T zk_mt zk_ex Ls xs zm_271 (47, [(0, .ref 69), (1, .int (nI a)), (2, .int (nI n)), (3, .int z), (4, .int 0)], [.long (zr_mlow u d z)]) (zH (zb (zb (zb (zb (zb (zb v 68 (upd (upd (upd (v 68) 0 0) 11 0) 26 (bg1.2.2.2.1))) 76 bg1.2.2.1) 79 bg1.2.2.2.2.2.2.2) 80 bg1.2.2.2.2.1) 81 bg1.2.2.2.2.2.1) 82 bg1.2.2.2.2.2.2.1) (zb w 68 (vp_updL (vp_updL (w 68) 37 (lN d)) 38 (lN u))) t) _
  subst hbg1
  exact zk_T.rt rfl rfl (by rfl)
/-- BasketKeepModel.odds -/
theorem zM_odds_I (a : Nat) (ha : a < 4) (hg : zr_misX (v 68 14) (v 71 3) (nI a) = 1) (n : Nat) (hn : n ≤ 60) (D : Nat) (hD : v 71 1 = nI D) (h8 : D ≤ 8) (Gn : Nat) (hG : v 71 3 = nI Gn) (h4 : Gn ≤ 4) (hev : ∀ d, d < D → ¬ v 71 (7 + 2 * d) = 0) (hli : zk_lie Gn (v 75)) (e : Nat) (he : e < 5) (hI : v 75 (10 + a) = nI (e + 1)) (T : Nat) (hT : v 75 (5 + e) = nI T) (hT8 : T < 256) (u d : Nat) (hlf : (zr_mtsI n D Gn (v 71) (v 75) a e T (v 76) (v 68 26) (v 80) (v 81) (v 82) (v 79)).2.1 = lN u) (haw : (zr_mtsI n D Gn (v 71) (v 75) a e T (v 76) (v 68 26) (v 80) (v 81) (v 82) (v 79)).1 = lN d) (hu : u < 2 ^ 63) (hd : 0 < d) (hd2 : d < 2 ^ 63) (z : Int32) : zk_Cr zk_mt zk_ex Ls xs 271 [.ref 69, .int (nI a), .int (nI n), .int z] (zH v w t) (some (.long (zr_mlow u d z)), zH (zb (zb (zb (zb (zb (zb v 68 (upd (upd (upd (v 68) 0 0) 11 0) 26 ((zr_mtsI n D Gn (v 71) (v 75) a e T (v 76) (v 68 26) (v 80) (v 81) (v 82) (v 79)).2.2.2.1))) 76 (zr_mtsI n D Gn (v 71) (v 75) a e T (v 76) (v 68 26) (v 80) (v 81) (v 82) (v 79)).2.2.1) 79 (zr_mtsI n D Gn (v 71) (v 75) a e T (v 76) (v 68 26) (v 80) (v 81) (v 82) (v 79)).2.2.2.2.2.2.2) 80 (zr_mtsI n D Gn (v 71) (v 75) a e T (v 76) (v 68 26) (v 80) (v 81) (v 82) (v 79)).2.2.2.2.1) 81 (zr_mtsI n D Gn (v 71) (v 75) a e T (v 76) (v 68 26) (v 80) (v 81) (v 82) (v 79)).2.2.2.2.2.1) 82 (zr_mtsI n D Gn (v 71) (v 75) a e T (v 76) (v 68 26) (v 80) (v 81) (v 82) (v 79)).2.2.2.2.2.2.1) (zb w 68 (vp_updL (vp_updL (w 68) 37 (lN d)) 38 (lN u))) t) := by
  refine zk_Cr.of (K := zm_271) rfl rfl rfl ?_
  show zk_T zk_mt zk_ex Ls xs zm_271 (0, [(0, .ref 69), (1, .int (nI a)), (2, .int (nI n)), (3, .int z)], []) (zH v w t) _
  refine zk_T.adv 1 (f' := (1, [(0, .ref 69), (1, .int (nI a)), (2, .int (nI n)), (3, .int z)], [.ref 69])) (h' := zH v w t) rfl ?_
  refine zk_T.cl (v := none) (h' := zH (zb v 68 (upd (upd (v 68) 0 0) 11 0)) w t) rfl (zs_manew (v := v) (w := w)) ?_
  show zk_T zk_mt zk_ex Ls xs zm_271 (4, [(0, .ref 69), (1, .int (nI a)), (2, .int (nI n)), (3, .int z)], []) (zH (zb v 68 (upd (upd (v 68) 0 0) 11 0)) w t) _
  refine zk_T.adv 3 (f' := (7, [(0, .ref 69), (1, .int (nI a)), (2, .int (nI n)), (3, .int z)], [.int (nI a), .ref 69, .ref 69])) (h' := zH (zb v 68 (upd (upd (v 68) 0 0) 11 0)) w t) rfl ?_
  refine zk_T.cl (v := some (.int 1)) (h' := zH (zb v 68 (upd (upd (v 68) 0 0) 11 0)) w t) rfl (by have ee_ : zk_Cr zk_mt zk_ex Ls xs 117 [.ref 69, .int (nI a)] (zH (zb v 68 (upd (upd (v 68) 0 0) 11 0)) w t) (some (.int (zr_misX (v 68 14) (v 71 3) (nI a))), zH (zb v 68 (upd (upd (v 68) 0 0) 11 0)) w t) := zs_misGood (v := (zb v 68 (upd (upd (v 68) 0 0) 11 0))) (w := w) (nI a); rw [show (zr_misX (v 68 14) (v 71 3) (nI a)) = 1 from hg] at ee_; exact ee_) ?_
  show zk_T zk_mt zk_ex Ls xs zm_271 (10, [(0, .ref 69), (1, .int (nI a)), (2, .int (nI n)), (3, .int z)], [.int 1, .ref 69]) (zH (zb v 68 (upd (upd (v 68) 0 0) 11 0)) w t) _
  refine zk_T.adv 1 (f' := (11, [(0, .ref 69), (1, .int (nI a)), (2, .int (nI n)), (3, .int z)], [.int (nI n), .int 1, .ref 69])) (h' := zH (zb v 68 (upd (upd (v 68) 0 0) 11 0)) w t) rfl ?_
  refine zk_T.cl (v := some (.int 0)) (h' := zH (zb v 68 (upd (upd (v 68) 0 0) 11 0)) w t) rfl (by have ee_ : zk_Cr zk_mt zk_ex Ls xs 108 [.ref 69, .int 1, .int (nI n)] (zH (zb v 68 (upd (upd (v 68) 0 0) 11 0)) w t) (some (.int (zr_maheadWhy 1 (nI n))), zH (zb v 68 (upd (upd (v 68) 0 0) 11 0)) w t) := zs_maheadWhy (v := (zb v 68 (upd (upd (v 68) 0 0) 11 0))) (w := w) 1 (nI n); rw [show (zr_maheadWhy 1 (nI n)) = 0 from (zk_ah1 n hn)] at ee_; exact ee_) ?_
  show zk_T zk_mt zk_ex Ls xs zm_271 (14, [(0, .ref 69), (1, .int (nI a)), (2, .int (nI n)), (3, .int z)], [.int 0]) (zH (zb v 68 (upd (upd (v 68) 0 0) 11 0)) w t) _
  refine zk_T.adv 2 (f' := (18, [(0, .ref 69), (1, .int (nI a)), (2, .int (nI n)), (3, .int z), (4, .int 0)], [.int 0])) (h' := zH (zb v 68 (upd (upd (v 68) 0 0) 11 0)) w t) rfl ?_
  refine zk_T.br (f1 := (29, [(0, .ref 69), (1, .int (nI a)), (2, .int (nI n)), (3, .int z), (4, .int 0)], [])) (f2 := (21, [(0, .ref 69), (1, .int (nI a)), (2, .int (nI n)), (3, .int z), (4, .int 0)], [])) rfl (fun c1 => ?_) (fun c1 => absurd (by decide) (of_decide_eq_false c1))
  refine zk_T.adv 3 (f' := (32, [(0, .ref 69), (1, .int (nI a)), (2, .int (nI n)), (3, .int z), (4, .int 0)], [.int (nI n), .int (nI a), .ref 69])) (h' := zH (zb v 68 (upd (upd (v 68) 0 0) 11 0)) w t) rfl ?_
  refine zk_T.cl (v := none) (h' := zH (zb (zb (zb (zb (zb (zb v 68 (upd (upd (upd (v 68) 0 0) 11 0) 26 ((zr_mtsI n D Gn (v 71) (v 75) a e T (v 76) (v 68 26) (v 80) (v 81) (v 82) (v 79)).2.2.2.1))) 76 ((zr_mtsI n D Gn (v 71) (v 75) a e T (v 76) (v 68 26) (v 80) (v 81) (v 82) (v 79)).2.2.1)) 79 ((zr_mtsI n D Gn (v 71) (v 75) a e T (v 76) (v 68 26) (v 80) (v 81) (v 82) (v 79)).2.2.2.2.2.2.2)) 80 ((zr_mtsI n D Gn (v 71) (v 75) a e T (v 76) (v 68 26) (v 80) (v 81) (v 82) (v 79)).2.2.2.2.1)) 81 ((zr_mtsI n D Gn (v 71) (v 75) a e T (v 76) (v 68 26) (v 80) (v 81) (v 82) (v 79)).2.2.2.2.2.1)) 82 ((zr_mtsI n D Gn (v 71) (v 75) a e T (v 76) (v 68 26) (v 80) (v 81) (v 82) (v 79)).2.2.2.2.2.2.1)) (zb w 68 (vp_updL (vp_updL (w 68) 37 ((zr_mtsI n D Gn (v 71) (v 75) a e T (v 76) (v 68 26) (v 80) (v 81) (v 82) (v 79)).1)) 38 ((zr_mtsI n D Gn (v 71) (v 75) a e T (v 76) (v 68 26) (v 80) (v 81) (v 82) (v 79)).2.1))) t) rfl (zs_mts_I (v := (zb v 68 (upd (upd (v 68) 0 0) 11 0))) (w := w) D hD h8 Gn hG h4 hev hli n hn a ha e he hI T hT hT8) ?_
  show zk_T zk_mt zk_ex Ls xs zm_271 (35, [(0, .ref 69), (1, .int (nI a)), (2, .int (nI n)), (3, .int z), (4, .int 0)], []) (zH (zb (zb (zb (zb (zb (zb v 68 (upd (upd (upd (v 68) 0 0) 11 0) 26 ((zr_mtsI n D Gn (v 71) (v 75) a e T (v 76) (v 68 26) (v 80) (v 81) (v 82) (v 79)).2.2.2.1))) 76 ((zr_mtsI n D Gn (v 71) (v 75) a e T (v 76) (v 68 26) (v 80) (v 81) (v 82) (v 79)).2.2.1)) 79 ((zr_mtsI n D Gn (v 71) (v 75) a e T (v 76) (v 68 26) (v 80) (v 81) (v 82) (v 79)).2.2.2.2.2.2.2)) 80 ((zr_mtsI n D Gn (v 71) (v 75) a e T (v 76) (v 68 26) (v 80) (v 81) (v 82) (v 79)).2.2.2.2.1)) 81 ((zr_mtsI n D Gn (v 71) (v 75) a e T (v 76) (v 68 26) (v 80) (v 81) (v 82) (v 79)).2.2.2.2.2.1)) 82 ((zr_mtsI n D Gn (v 71) (v 75) a e T (v 76) (v 68 26) (v 80) (v 81) (v 82) (v 79)).2.2.2.2.2.2.1)) (zb w 68 (vp_updL (vp_updL (w 68) 37 ((zr_mtsI n D Gn (v 71) (v 75) a e T (v 76) (v 68 26) (v 80) (v 81) (v 82) (v 79)).1)) 38 ((zr_mtsI n D Gn (v 71) (v 75) a e T (v 76) (v 68 26) (v 80) (v 81) (v 82) (v 79)).2.1))) t) _
  obtain ⟨bg1, hbg1⟩ : ∃ z, z = (zr_mtsI n D Gn (v 71) (v 75) a e T (v 76) (v 68 26) (v 80) (v 81) (v 82) (v 79)) := ⟨_, rfl⟩
  rw [← hbg1]
  show zk_T zk_mt zk_ex Ls xs zm_271 (35, [(0, .ref 69), (1, .int (nI a)), (2, .int (nI n)), (3, .int z), (4, .int 0)], []) (zH (zb (zb (zb (zb (zb (zb v 68 (upd (upd (upd (v 68) 0 0) 11 0) 26 (bg1.2.2.2.1))) 76 bg1.2.2.1) 79 bg1.2.2.2.2.2.2.2) 80 bg1.2.2.2.2.1) 81 bg1.2.2.2.2.2.1) 82 bg1.2.2.2.2.2.2.1) (zb w 68 (vp_updL (vp_updL (w 68) 37 (bg1.1)) 38 (bg1.2.1))) t) _
  refine zk_T.adv 2 (f' := (39, [(0, .ref 69), (1, .int (nI a)), (2, .int (nI n)), (3, .int z), (4, .int 0)], [.long bg1.2.1])) (h' := zH (zb (zb (zb (zb (zb (zb v 68 (upd (upd (upd (v 68) 0 0) 11 0) 26 (bg1.2.2.2.1))) 76 bg1.2.2.1) 79 bg1.2.2.2.2.2.2.2) 80 bg1.2.2.2.2.1) 81 bg1.2.2.2.2.2.1) 82 bg1.2.2.2.2.2.2.1) (zb w 68 (vp_updL (vp_updL (w 68) 37 (bg1.1)) 38 (bg1.2.1))) t) rfl ?_
  rw [show bg1.2.1 = lN u from (by rw [hbg1]; exact hlf)]
  refine zk_T.adv 2 (f' := (43, [(0, .ref 69), (1, .int (nI a)), (2, .int (nI n)), (3, .int z), (4, .int 0)], [.long bg1.1, .long (lN u)])) (h' := zH (zb (zb (zb (zb (zb (zb v 68 (upd (upd (upd (v 68) 0 0) 11 0) 26 (bg1.2.2.2.1))) 76 bg1.2.2.1) 79 bg1.2.2.2.2.2.2.2) 80 bg1.2.2.2.2.1) 81 bg1.2.2.2.2.2.1) 82 bg1.2.2.2.2.2.2.1) (zb w 68 (vp_updL (vp_updL (w 68) 37 (bg1.1)) 38 (lN u))) t) rfl ?_
  rw [show bg1.1 = lN d from (by rw [hbg1]; exact haw)]
  refine zk_T.adv 1 (f' := (44, [(0, .ref 69), (1, .int (nI a)), (2, .int (nI n)), (3, .int z), (4, .int 0)], [.int z, .long (lN d), .long (lN u)])) (h' := zH (zb (zb (zb (zb (zb (zb v 68 (upd (upd (upd (v 68) 0 0) 11 0) 26 (bg1.2.2.2.1))) 76 bg1.2.2.1) 79 bg1.2.2.2.2.2.2.2) 80 bg1.2.2.2.2.1) 81 bg1.2.2.2.2.2.1) 82 bg1.2.2.2.2.2.2.1) (zb w 68 (vp_updL (vp_updL (w 68) 37 (lN d)) 38 (lN u))) t) rfl ?_
  refine zk_T.cl (v := some (.long (zr_mlow u d z))) (h' := zH (zb (zb (zb (zb (zb (zb v 68 (upd (upd (upd (v 68) 0 0) 11 0) 26 (bg1.2.2.2.1))) 76 bg1.2.2.1) 79 bg1.2.2.2.2.2.2.2) 80 bg1.2.2.2.2.1) 81 bg1.2.2.2.2.2.1) 82 bg1.2.2.2.2.2.2.1) (zb w 68 (vp_updL (vp_updL (w 68) 37 (lN d)) 38 (lN u))) t) rfl (zs_mlowest (v := (zb (zb (zb (zb (zb (zb v 68 (upd (upd (upd (v 68) 0 0) 11 0) 26 (bg1.2.2.2.1))) 76 bg1.2.2.1) 79 bg1.2.2.2.2.2.2.2) 80 bg1.2.2.2.2.1) 81 bg1.2.2.2.2.2.1) 82 bg1.2.2.2.2.2.2.1)) (w := (zb w 68 (vp_updL (vp_updL (w 68) 37 (lN d)) 38 (lN u)))) u d hu hd hd2 z) ?_
  show zk_T zk_mt zk_ex Ls xs zm_271 (47, [(0, .ref 69), (1, .int (nI a)), (2, .int (nI n)), (3, .int z), (4, .int 0)], [.long (zr_mlow u d z)]) (zH (zb (zb (zb (zb (zb (zb v 68 (upd (upd (upd (v 68) 0 0) 11 0) 26 (bg1.2.2.2.1))) 76 bg1.2.2.1) 79 bg1.2.2.2.2.2.2.2) 80 bg1.2.2.2.2.1) 81 bg1.2.2.2.2.2.1) 82 bg1.2.2.2.2.2.2.1) (zb w 68 (vp_updL (vp_updL (w 68) 37 (lN d)) 38 (lN u))) t) _
  subst hbg1
  exact zk_T.rt rfl rfl (by rfl)
/-- BasketKeepModel.mean -/
theorem zM_mean_t (x y z : Int32) (hg : zr_misX (v 68 14) (v 71 3) x = 0) : zk_Cr zk_mt zk_ex Ls xs 267 [.ref 69, .int x, .int y, .int z] (zH v w t) (some (.long (((-1) : Int32).toInt64)), zH (zb v 68 (upd (upd (v 68) 0 0) 11 1)) w t) := by
  refine zk_Cr.of (K := zm_267) rfl rfl rfl ?_
  show zk_T zk_mt zk_ex Ls xs zm_267 (0, [(0, .ref 69), (1, .int x), (2, .int y), (3, .int z)], []) (zH v w t) _
  refine zk_T.adv 1 (f' := (1, [(0, .ref 69), (1, .int x), (2, .int y), (3, .int z)], [.ref 69])) (h' := zH v w t) rfl ?_
  refine zk_T.cl (v := none) (h' := zH (zb v 68 (upd (upd (v 68) 0 0) 11 0)) w t) rfl (zs_manew (v := v) (w := w)) ?_
  show zk_T zk_mt zk_ex Ls xs zm_267 (4, [(0, .ref 69), (1, .int x), (2, .int y), (3, .int z)], []) (zH (zb v 68 (upd (upd (v 68) 0 0) 11 0)) w t) _
  refine zk_T.adv 3 (f' := (7, [(0, .ref 69), (1, .int x), (2, .int y), (3, .int z)], [.int x, .ref 69, .ref 69])) (h' := zH (zb v 68 (upd (upd (v 68) 0 0) 11 0)) w t) rfl ?_
  refine zk_T.cl (v := some (.int 0)) (h' := zH (zb v 68 (upd (upd (v 68) 0 0) 11 0)) w t) rfl (by have ee_ : zk_Cr zk_mt zk_ex Ls xs 117 [.ref 69, .int x] (zH (zb v 68 (upd (upd (v 68) 0 0) 11 0)) w t) (some (.int (zr_misX (v 68 14) (v 71 3) x)), zH (zb v 68 (upd (upd (v 68) 0 0) 11 0)) w t) := zs_misGood (v := (zb v 68 (upd (upd (v 68) 0 0) 11 0))) (w := w) x; rw [show (zr_misX (v 68 14) (v 71 3) x) = 0 from hg] at ee_; exact ee_) ?_
  show zk_T zk_mt zk_ex Ls xs zm_267 (10, [(0, .ref 69), (1, .int x), (2, .int y), (3, .int z)], [.int 0, .ref 69]) (zH (zb v 68 (upd (upd (v 68) 0 0) 11 0)) w t) _
  refine zk_T.adv 1 (f' := (11, [(0, .ref 69), (1, .int x), (2, .int y), (3, .int z)], [.int y, .int 0, .ref 69])) (h' := zH (zb v 68 (upd (upd (v 68) 0 0) 11 0)) w t) rfl ?_
  refine zk_T.cl (v := some (.int 1)) (h' := zH (zb v 68 (upd (upd (v 68) 0 0) 11 0)) w t) rfl (zs_maheadWhy (v := (zb v 68 (upd (upd (v 68) 0 0) 11 0))) (w := w) 0 y) ?_
  show zk_T zk_mt zk_ex Ls xs zm_267 (14, [(0, .ref 69), (1, .int x), (2, .int y), (3, .int z)], [.int 1]) (zH (zb v 68 (upd (upd (v 68) 0 0) 11 0)) w t) _
  refine zk_T.adv 2 (f' := (18, [(0, .ref 69), (1, .int x), (2, .int y), (3, .int z), (4, .int 1)], [.int 1])) (h' := zH (zb v 68 (upd (upd (v 68) 0 0) 11 0)) w t) rfl ?_
  refine zk_T.br (f1 := (29, [(0, .ref 69), (1, .int x), (2, .int y), (3, .int z), (4, .int 1)], [])) (f2 := (21, [(0, .ref 69), (1, .int x), (2, .int y), (3, .int z), (4, .int 1)], [])) rfl (fun c1 => absurd (of_decide_eq_true c1) (by decide)) (fun c1 => ?_)
  refine zk_T.adv 2 (f' := (24, [(0, .ref 69), (1, .int x), (2, .int y), (3, .int z), (4, .int 1)], [.int 1, .ref 69])) (h' := zH (zb v 68 (upd (upd (v 68) 0 0) 11 0)) w t) rfl ?_
  refine zk_T.cl (v := some (.int (-1))) (h' := zH (zb v 68 (upd (upd (v 68) 0 0) 11 1)) w t) rfl (zs_mno (v := (zb v 68 (upd (upd (v 68) 0 0) 11 0))) (w := w) 1) ?_
  show zk_T zk_mt zk_ex Ls xs zm_267 (27, [(0, .ref 69), (1, .int x), (2, .int y), (3, .int z), (4, .int 1)], [.int (-1)]) (zH (zb v 68 (upd (upd (v 68) 0 0) 11 1)) w t) _
  refine zk_T.adv 1 (f' := (28, [(0, .ref 69), (1, .int x), (2, .int y), (3, .int z), (4, .int 1)], [.long (((-1) : Int32).toInt64)])) (h' := zH (zb v 68 (upd (upd (v 68) 0 0) 11 1)) w t) rfl ?_
  exact zk_T.rt rfl rfl (by rfl)
/-- BasketKeepModel.mean -/
theorem zM_mean_o (y x z : Int32) (hg : zr_misX (v 68 14) (v 71 3) y = 1) (hw : zr_maheadWhy 1 x = 2) : zk_Cr zk_mt zk_ex Ls xs 267 [.ref 69, .int y, .int x, .int z] (zH v w t) (some (.long (((-1) : Int32).toInt64)), zH (zb v 68 (upd (upd (v 68) 0 0) 11 2)) w t) := by
  refine zk_Cr.of (K := zm_267) rfl rfl rfl ?_
  show zk_T zk_mt zk_ex Ls xs zm_267 (0, [(0, .ref 69), (1, .int y), (2, .int x), (3, .int z)], []) (zH v w t) _
  refine zk_T.adv 1 (f' := (1, [(0, .ref 69), (1, .int y), (2, .int x), (3, .int z)], [.ref 69])) (h' := zH v w t) rfl ?_
  refine zk_T.cl (v := none) (h' := zH (zb v 68 (upd (upd (v 68) 0 0) 11 0)) w t) rfl (zs_manew (v := v) (w := w)) ?_
  show zk_T zk_mt zk_ex Ls xs zm_267 (4, [(0, .ref 69), (1, .int y), (2, .int x), (3, .int z)], []) (zH (zb v 68 (upd (upd (v 68) 0 0) 11 0)) w t) _
  refine zk_T.adv 3 (f' := (7, [(0, .ref 69), (1, .int y), (2, .int x), (3, .int z)], [.int y, .ref 69, .ref 69])) (h' := zH (zb v 68 (upd (upd (v 68) 0 0) 11 0)) w t) rfl ?_
  refine zk_T.cl (v := some (.int 1)) (h' := zH (zb v 68 (upd (upd (v 68) 0 0) 11 0)) w t) rfl (by have ee_ : zk_Cr zk_mt zk_ex Ls xs 117 [.ref 69, .int y] (zH (zb v 68 (upd (upd (v 68) 0 0) 11 0)) w t) (some (.int (zr_misX (v 68 14) (v 71 3) y)), zH (zb v 68 (upd (upd (v 68) 0 0) 11 0)) w t) := zs_misGood (v := (zb v 68 (upd (upd (v 68) 0 0) 11 0))) (w := w) y; rw [show (zr_misX (v 68 14) (v 71 3) y) = 1 from hg] at ee_; exact ee_) ?_
  show zk_T zk_mt zk_ex Ls xs zm_267 (10, [(0, .ref 69), (1, .int y), (2, .int x), (3, .int z)], [.int 1, .ref 69]) (zH (zb v 68 (upd (upd (v 68) 0 0) 11 0)) w t) _
  refine zk_T.adv 1 (f' := (11, [(0, .ref 69), (1, .int y), (2, .int x), (3, .int z)], [.int x, .int 1, .ref 69])) (h' := zH (zb v 68 (upd (upd (v 68) 0 0) 11 0)) w t) rfl ?_
  refine zk_T.cl (v := some (.int 2)) (h' := zH (zb v 68 (upd (upd (v 68) 0 0) 11 0)) w t) rfl (by have ee_ : zk_Cr zk_mt zk_ex Ls xs 108 [.ref 69, .int 1, .int x] (zH (zb v 68 (upd (upd (v 68) 0 0) 11 0)) w t) (some (.int (zr_maheadWhy 1 x)), zH (zb v 68 (upd (upd (v 68) 0 0) 11 0)) w t) := zs_maheadWhy (v := (zb v 68 (upd (upd (v 68) 0 0) 11 0))) (w := w) 1 x; rw [show (zr_maheadWhy 1 x) = 2 from hw] at ee_; exact ee_) ?_
  show zk_T zk_mt zk_ex Ls xs zm_267 (14, [(0, .ref 69), (1, .int y), (2, .int x), (3, .int z)], [.int 2]) (zH (zb v 68 (upd (upd (v 68) 0 0) 11 0)) w t) _
  refine zk_T.adv 2 (f' := (18, [(0, .ref 69), (1, .int y), (2, .int x), (3, .int z), (4, .int 2)], [.int 2])) (h' := zH (zb v 68 (upd (upd (v 68) 0 0) 11 0)) w t) rfl ?_
  refine zk_T.br (f1 := (29, [(0, .ref 69), (1, .int y), (2, .int x), (3, .int z), (4, .int 2)], [])) (f2 := (21, [(0, .ref 69), (1, .int y), (2, .int x), (3, .int z), (4, .int 2)], [])) rfl (fun c1 => absurd (of_decide_eq_true c1) (by decide)) (fun c1 => ?_)
  refine zk_T.adv 2 (f' := (24, [(0, .ref 69), (1, .int y), (2, .int x), (3, .int z), (4, .int 2)], [.int 2, .ref 69])) (h' := zH (zb v 68 (upd (upd (v 68) 0 0) 11 0)) w t) rfl ?_
  refine zk_T.cl (v := some (.int (-1))) (h' := zH (zb v 68 (upd (upd (v 68) 0 0) 11 2)) w t) rfl (zs_mno (v := (zb v 68 (upd (upd (v 68) 0 0) 11 0))) (w := w) 2) ?_
  show zk_T zk_mt zk_ex Ls xs zm_267 (27, [(0, .ref 69), (1, .int y), (2, .int x), (3, .int z), (4, .int 2)], [.int (-1)]) (zH (zb v 68 (upd (upd (v 68) 0 0) 11 2)) w t) _
  refine zk_T.adv 1 (f' := (28, [(0, .ref 69), (1, .int y), (2, .int x), (3, .int z), (4, .int 2)], [.long (((-1) : Int32).toInt64)])) (h' := zH (zb v 68 (upd (upd (v 68) 0 0) 11 2)) w t) rfl ?_
  exact zk_T.rt rfl rfl (by rfl)
/-- BasketKeepModel.mean -/
theorem zM_mean_B (a : Nat) (ha : a < 4) (hg : zr_misX (v 68 14) (v 71 3) (nI a) = 1) (n : Nat) (hn : n ≤ 60) (D : Nat) (hD : v 71 1 = nI D) (h8 : D ≤ 8) (Gn : Nat) (hG : v 71 3 = nI Gn) (h4 : Gn ≤ 4) (hev : ∀ d, d < D → ¬ v 71 (7 + 2 * d) = 0) (hli : zk_lie Gn (v 75)) (hB : v 75 (10 + a) = 0) (T : Nat) (hT : nI T = 0) (hT8 : T < 256) (u0 u d : Nat) (hlf : (zr_mtsB n D Gn (v 71) (v 75) a T (v 76) (v 68 26) (v 80) (v 81) (v 82) (v 79)).2.1 = lN u0) (haw : (zr_mtsB n D Gn (v 71) (v 75) a T (v 76) (v 68 26) (v 80) (v 81) (v 82) (v 79)).1 = lN d) (hu : u < 2 ^ 63) (hd : 0 < d) (hd2 : d < 2 ^ 63) (z : Int32) (hmu : (v 71 (33 + 2 * a)).toInt64 * lN u0 = lN u) : zk_Cr zk_mt zk_ex Ls xs 267 [.ref 69, .int (nI a), .int (nI n), .int z] (zH v w t) (some (.long (zr_mlow u d z)), zH (zb (zb (zb (zb (zb (zb v 68 (upd (upd (upd (v 68) 0 0) 11 0) 26 ((zr_mtsB n D Gn (v 71) (v 75) a T (v 76) (v 68 26) (v 80) (v 81) (v 82) (v 79)).2.2.2.1))) 76 (zr_mtsB n D Gn (v 71) (v 75) a T (v 76) (v 68 26) (v 80) (v 81) (v 82) (v 79)).2.2.1) 79 (zr_mtsB n D Gn (v 71) (v 75) a T (v 76) (v 68 26) (v 80) (v 81) (v 82) (v 79)).2.2.2.2.2.2.2) 80 (zr_mtsB n D Gn (v 71) (v 75) a T (v 76) (v 68 26) (v 80) (v 81) (v 82) (v 79)).2.2.2.2.1) 81 (zr_mtsB n D Gn (v 71) (v 75) a T (v 76) (v 68 26) (v 80) (v 81) (v 82) (v 79)).2.2.2.2.2.1) 82 (zr_mtsB n D Gn (v 71) (v 75) a T (v 76) (v 68 26) (v 80) (v 81) (v 82) (v 79)).2.2.2.2.2.2.1) (zb w 68 (vp_updL (vp_updL (w 68) 37 (lN d)) 38 (lN u0))) t) := by
  refine zk_Cr.of (K := zm_267) rfl rfl rfl ?_
  show zk_T zk_mt zk_ex Ls xs zm_267 (0, [(0, .ref 69), (1, .int (nI a)), (2, .int (nI n)), (3, .int z)], []) (zH v w t) _
  refine zk_T.adv 1 (f' := (1, [(0, .ref 69), (1, .int (nI a)), (2, .int (nI n)), (3, .int z)], [.ref 69])) (h' := zH v w t) rfl ?_
  refine zk_T.cl (v := none) (h' := zH (zb v 68 (upd (upd (v 68) 0 0) 11 0)) w t) rfl (zs_manew (v := v) (w := w)) ?_
  show zk_T zk_mt zk_ex Ls xs zm_267 (4, [(0, .ref 69), (1, .int (nI a)), (2, .int (nI n)), (3, .int z)], []) (zH (zb v 68 (upd (upd (v 68) 0 0) 11 0)) w t) _
  refine zk_T.adv 3 (f' := (7, [(0, .ref 69), (1, .int (nI a)), (2, .int (nI n)), (3, .int z)], [.int (nI a), .ref 69, .ref 69])) (h' := zH (zb v 68 (upd (upd (v 68) 0 0) 11 0)) w t) rfl ?_
  refine zk_T.cl (v := some (.int 1)) (h' := zH (zb v 68 (upd (upd (v 68) 0 0) 11 0)) w t) rfl (by have ee_ : zk_Cr zk_mt zk_ex Ls xs 117 [.ref 69, .int (nI a)] (zH (zb v 68 (upd (upd (v 68) 0 0) 11 0)) w t) (some (.int (zr_misX (v 68 14) (v 71 3) (nI a))), zH (zb v 68 (upd (upd (v 68) 0 0) 11 0)) w t) := zs_misGood (v := (zb v 68 (upd (upd (v 68) 0 0) 11 0))) (w := w) (nI a); rw [show (zr_misX (v 68 14) (v 71 3) (nI a)) = 1 from hg] at ee_; exact ee_) ?_
  show zk_T zk_mt zk_ex Ls xs zm_267 (10, [(0, .ref 69), (1, .int (nI a)), (2, .int (nI n)), (3, .int z)], [.int 1, .ref 69]) (zH (zb v 68 (upd (upd (v 68) 0 0) 11 0)) w t) _
  refine zk_T.adv 1 (f' := (11, [(0, .ref 69), (1, .int (nI a)), (2, .int (nI n)), (3, .int z)], [.int (nI n), .int 1, .ref 69])) (h' := zH (zb v 68 (upd (upd (v 68) 0 0) 11 0)) w t) rfl ?_
  refine zk_T.cl (v := some (.int 0)) (h' := zH (zb v 68 (upd (upd (v 68) 0 0) 11 0)) w t) rfl (by have ee_ : zk_Cr zk_mt zk_ex Ls xs 108 [.ref 69, .int 1, .int (nI n)] (zH (zb v 68 (upd (upd (v 68) 0 0) 11 0)) w t) (some (.int (zr_maheadWhy 1 (nI n))), zH (zb v 68 (upd (upd (v 68) 0 0) 11 0)) w t) := zs_maheadWhy (v := (zb v 68 (upd (upd (v 68) 0 0) 11 0))) (w := w) 1 (nI n); rw [show (zr_maheadWhy 1 (nI n)) = 0 from (zk_ah1 n hn)] at ee_; exact ee_) ?_
  show zk_T zk_mt zk_ex Ls xs zm_267 (14, [(0, .ref 69), (1, .int (nI a)), (2, .int (nI n)), (3, .int z)], [.int 0]) (zH (zb v 68 (upd (upd (v 68) 0 0) 11 0)) w t) _
  refine zk_T.adv 2 (f' := (18, [(0, .ref 69), (1, .int (nI a)), (2, .int (nI n)), (3, .int z), (4, .int 0)], [.int 0])) (h' := zH (zb v 68 (upd (upd (v 68) 0 0) 11 0)) w t) rfl ?_
  refine zk_T.br (f1 := (29, [(0, .ref 69), (1, .int (nI a)), (2, .int (nI n)), (3, .int z), (4, .int 0)], [])) (f2 := (21, [(0, .ref 69), (1, .int (nI a)), (2, .int (nI n)), (3, .int z), (4, .int 0)], [])) rfl (fun c1 => ?_) (fun c1 => absurd (by decide) (of_decide_eq_false c1))
  refine zk_T.adv 3 (f' := (32, [(0, .ref 69), (1, .int (nI a)), (2, .int (nI n)), (3, .int z), (4, .int 0)], [.int (nI n), .int (nI a), .ref 69])) (h' := zH (zb v 68 (upd (upd (v 68) 0 0) 11 0)) w t) rfl ?_
  refine zk_T.cl (v := none) (h' := zH (zb (zb (zb (zb (zb (zb v 68 (upd (upd (upd (v 68) 0 0) 11 0) 26 ((zr_mtsB n D Gn (v 71) (v 75) a T (v 76) (v 68 26) (v 80) (v 81) (v 82) (v 79)).2.2.2.1))) 76 ((zr_mtsB n D Gn (v 71) (v 75) a T (v 76) (v 68 26) (v 80) (v 81) (v 82) (v 79)).2.2.1)) 79 ((zr_mtsB n D Gn (v 71) (v 75) a T (v 76) (v 68 26) (v 80) (v 81) (v 82) (v 79)).2.2.2.2.2.2.2)) 80 ((zr_mtsB n D Gn (v 71) (v 75) a T (v 76) (v 68 26) (v 80) (v 81) (v 82) (v 79)).2.2.2.2.1)) 81 ((zr_mtsB n D Gn (v 71) (v 75) a T (v 76) (v 68 26) (v 80) (v 81) (v 82) (v 79)).2.2.2.2.2.1)) 82 ((zr_mtsB n D Gn (v 71) (v 75) a T (v 76) (v 68 26) (v 80) (v 81) (v 82) (v 79)).2.2.2.2.2.2.1)) (zb w 68 (vp_updL (vp_updL (w 68) 37 ((zr_mtsB n D Gn (v 71) (v 75) a T (v 76) (v 68 26) (v 80) (v 81) (v 82) (v 79)).1)) 38 ((zr_mtsB n D Gn (v 71) (v 75) a T (v 76) (v 68 26) (v 80) (v 81) (v 82) (v 79)).2.1))) t) rfl (zs_mts_B (v := (zb v 68 (upd (upd (v 68) 0 0) 11 0))) (w := w) D hD h8 Gn hG h4 hev hli n hn a ha hB T hT hT8) ?_
  show zk_T zk_mt zk_ex Ls xs zm_267 (35, [(0, .ref 69), (1, .int (nI a)), (2, .int (nI n)), (3, .int z), (4, .int 0)], []) (zH (zb (zb (zb (zb (zb (zb v 68 (upd (upd (upd (v 68) 0 0) 11 0) 26 ((zr_mtsB n D Gn (v 71) (v 75) a T (v 76) (v 68 26) (v 80) (v 81) (v 82) (v 79)).2.2.2.1))) 76 ((zr_mtsB n D Gn (v 71) (v 75) a T (v 76) (v 68 26) (v 80) (v 81) (v 82) (v 79)).2.2.1)) 79 ((zr_mtsB n D Gn (v 71) (v 75) a T (v 76) (v 68 26) (v 80) (v 81) (v 82) (v 79)).2.2.2.2.2.2.2)) 80 ((zr_mtsB n D Gn (v 71) (v 75) a T (v 76) (v 68 26) (v 80) (v 81) (v 82) (v 79)).2.2.2.2.1)) 81 ((zr_mtsB n D Gn (v 71) (v 75) a T (v 76) (v 68 26) (v 80) (v 81) (v 82) (v 79)).2.2.2.2.2.1)) 82 ((zr_mtsB n D Gn (v 71) (v 75) a T (v 76) (v 68 26) (v 80) (v 81) (v 82) (v 79)).2.2.2.2.2.2.1)) (zb w 68 (vp_updL (vp_updL (w 68) 37 ((zr_mtsB n D Gn (v 71) (v 75) a T (v 76) (v 68 26) (v 80) (v 81) (v 82) (v 79)).1)) 38 ((zr_mtsB n D Gn (v 71) (v 75) a T (v 76) (v 68 26) (v 80) (v 81) (v 82) (v 79)).2.1))) t) _
  obtain ⟨bg1, hbg1⟩ : ∃ z, z = (zr_mtsB n D Gn (v 71) (v 75) a T (v 76) (v 68 26) (v 80) (v 81) (v 82) (v 79)) := ⟨_, rfl⟩
  rw [← hbg1]
  show zk_T zk_mt zk_ex Ls xs zm_267 (35, [(0, .ref 69), (1, .int (nI a)), (2, .int (nI n)), (3, .int z), (4, .int 0)], []) (zH (zb (zb (zb (zb (zb (zb v 68 (upd (upd (upd (v 68) 0 0) 11 0) 26 (bg1.2.2.2.1))) 76 bg1.2.2.1) 79 bg1.2.2.2.2.2.2.2) 80 bg1.2.2.2.2.1) 81 bg1.2.2.2.2.2.1) 82 bg1.2.2.2.2.2.2.1) (zb w 68 (vp_updL (vp_updL (w 68) 37 (bg1.1)) 38 (bg1.2.1))) t) _
  refine zk_T.adv 6 (f' := (44, [(0, .ref 69), (1, .int (nI a)), (2, .int (nI n)), (3, .int z), (4, .int 0)], [.int (2 * (nI a)), .int 33, .ref 72])) (h' := zH (zb (zb (zb (zb (zb (zb v 68 (upd (upd (upd (v 68) 0 0) 11 0) 26 (bg1.2.2.2.1))) 76 bg1.2.2.1) 79 bg1.2.2.2.2.2.2.2) 80 bg1.2.2.2.2.1) 81 bg1.2.2.2.2.2.1) 82 bg1.2.2.2.2.2.2.1) (zb w 68 (vp_updL (vp_updL (w 68) 37 (bg1.1)) 38 (bg1.2.1))) t) rfl ?_
  rw [show 2 * (nI a) = nI (2 * a) from pk_mul 2 a]
  refine zk_T.adv 1 (f' := (45, [(0, .ref 69), (1, .int (nI a)), (2, .int (nI n)), (3, .int z), (4, .int 0)], [.int (33 + (nI (2 * a))), .ref 72])) (h' := zH (zb (zb (zb (zb (zb (zb v 68 (upd (upd (upd (v 68) 0 0) 11 0) 26 (bg1.2.2.2.1))) 76 bg1.2.2.1) 79 bg1.2.2.2.2.2.2.2) 80 bg1.2.2.2.2.1) 81 bg1.2.2.2.2.2.1) 82 bg1.2.2.2.2.2.2.1) (zb w 68 (vp_updL (vp_updL (w 68) 37 (bg1.1)) 38 (bg1.2.1))) t) rfl ?_
  rw [show 33 + (nI (2 * a)) = nI (33 + (2 * a)) from nI_add 33 (2 * a)]
  refine zk_T.ob (f' := (46, [(0, .ref 69), (1, .int (nI a)), (2, .int (nI n)), (3, .int z), (4, .int 0)], [.int (v 71 (nI (33 + (2 * a))).toNatClampNeg)])) (h' := zH (zb (zb (zb (zb (zb (zb v 68 (upd (upd (upd (v 68) 0 0) 11 0) 26 (bg1.2.2.2.1))) 76 bg1.2.2.1) 79 bg1.2.2.2.2.2.2.2) 80 bg1.2.2.2.2.1) 81 bg1.2.2.2.2.2.1) 82 bg1.2.2.2.2.2.2.1) (zb w 68 (vp_updL (vp_updL (w 68) 37 (bg1.1)) 38 (bg1.2.1))) t) rfl (by first | exact zk_inN (by omega) (by decide) | decide) ?_
  rw [nI_clamp (show (33 + (2 * a)) < 2 ^ 31 by omega)]
  refine zk_T.adv 3 (f' := (51, [(0, .ref 69), (1, .int (nI a)), (2, .int (nI n)), (3, .int z), (4, .int 0)], [.long bg1.2.1, .long (((v 71 (33 + (2 * a))) : Int32).toInt64)])) (h' := zH (zb (zb (zb (zb (zb (zb v 68 (upd (upd (upd (v 68) 0 0) 11 0) 26 (bg1.2.2.2.1))) 76 bg1.2.2.1) 79 bg1.2.2.2.2.2.2.2) 80 bg1.2.2.2.2.1) 81 bg1.2.2.2.2.2.1) 82 bg1.2.2.2.2.2.2.1) (zb w 68 (vp_updL (vp_updL (w 68) 37 (bg1.1)) 38 (bg1.2.1))) t) rfl ?_
  rw [show bg1.2.1 = lN u0 from (by rw [hbg1]; exact hlf)]
  refine zk_T.adv 1 (f' := (52, [(0, .ref 69), (1, .int (nI a)), (2, .int (nI n)), (3, .int z), (4, .int 0)], [.long ((((v 71 (33 + (2 * a))) : Int32).toInt64) * (lN u0))])) (h' := zH (zb (zb (zb (zb (zb (zb v 68 (upd (upd (upd (v 68) 0 0) 11 0) 26 (bg1.2.2.2.1))) 76 bg1.2.2.1) 79 bg1.2.2.2.2.2.2.2) 80 bg1.2.2.2.2.1) 81 bg1.2.2.2.2.2.1) 82 bg1.2.2.2.2.2.2.1) (zb w 68 (vp_updL (vp_updL (w 68) 37 (bg1.1)) 38 (lN u0))) t) rfl ?_
  rw [show (((v 71 (33 + (2 * a))) : Int32).toInt64) * (lN u0) = lN u from hmu]
  refine zk_T.adv 2 (f' := (56, [(0, .ref 69), (1, .int (nI a)), (2, .int (nI n)), (3, .int z), (4, .int 0)], [.long bg1.1, .long (lN u)])) (h' := zH (zb (zb (zb (zb (zb (zb v 68 (upd (upd (upd (v 68) 0 0) 11 0) 26 (bg1.2.2.2.1))) 76 bg1.2.2.1) 79 bg1.2.2.2.2.2.2.2) 80 bg1.2.2.2.2.1) 81 bg1.2.2.2.2.2.1) 82 bg1.2.2.2.2.2.2.1) (zb w 68 (vp_updL (vp_updL (w 68) 37 (bg1.1)) 38 (lN u0))) t) rfl ?_
  rw [show bg1.1 = lN d from (by rw [hbg1]; exact haw)]
  refine zk_T.adv 1 (f' := (57, [(0, .ref 69), (1, .int (nI a)), (2, .int (nI n)), (3, .int z), (4, .int 0)], [.int z, .long (lN d), .long (lN u)])) (h' := zH (zb (zb (zb (zb (zb (zb v 68 (upd (upd (upd (v 68) 0 0) 11 0) 26 (bg1.2.2.2.1))) 76 bg1.2.2.1) 79 bg1.2.2.2.2.2.2.2) 80 bg1.2.2.2.2.1) 81 bg1.2.2.2.2.2.1) 82 bg1.2.2.2.2.2.2.1) (zb w 68 (vp_updL (vp_updL (w 68) 37 (lN d)) 38 (lN u0))) t) rfl ?_
  refine zk_T.cl (v := some (.long (zr_mlow u d z))) (h' := zH (zb (zb (zb (zb (zb (zb v 68 (upd (upd (upd (v 68) 0 0) 11 0) 26 (bg1.2.2.2.1))) 76 bg1.2.2.1) 79 bg1.2.2.2.2.2.2.2) 80 bg1.2.2.2.2.1) 81 bg1.2.2.2.2.2.1) 82 bg1.2.2.2.2.2.2.1) (zb w 68 (vp_updL (vp_updL (w 68) 37 (lN d)) 38 (lN u0))) t) rfl (zs_mlowest (v := (zb (zb (zb (zb (zb (zb v 68 (upd (upd (upd (v 68) 0 0) 11 0) 26 (bg1.2.2.2.1))) 76 bg1.2.2.1) 79 bg1.2.2.2.2.2.2.2) 80 bg1.2.2.2.2.1) 81 bg1.2.2.2.2.2.1) 82 bg1.2.2.2.2.2.2.1)) (w := (zb w 68 (vp_updL (vp_updL (w 68) 37 (lN d)) 38 (lN u0)))) u d hu hd hd2 z) ?_
  show zk_T zk_mt zk_ex Ls xs zm_267 (60, [(0, .ref 69), (1, .int (nI a)), (2, .int (nI n)), (3, .int z), (4, .int 0)], [.long (zr_mlow u d z)]) (zH (zb (zb (zb (zb (zb (zb v 68 (upd (upd (upd (v 68) 0 0) 11 0) 26 (bg1.2.2.2.1))) 76 bg1.2.2.1) 79 bg1.2.2.2.2.2.2.2) 80 bg1.2.2.2.2.1) 81 bg1.2.2.2.2.2.1) 82 bg1.2.2.2.2.2.2.1) (zb w 68 (vp_updL (vp_updL (w 68) 37 (lN d)) 38 (lN u0))) t) _
  subst hbg1
  exact zk_T.rt rfl rfl (by rfl)
/-- BasketKeepModel.mean -/
theorem zM_mean_I (a : Nat) (ha : a < 4) (hg : zr_misX (v 68 14) (v 71 3) (nI a) = 1) (n : Nat) (hn : n ≤ 60) (D : Nat) (hD : v 71 1 = nI D) (h8 : D ≤ 8) (Gn : Nat) (hG : v 71 3 = nI Gn) (h4 : Gn ≤ 4) (hev : ∀ d, d < D → ¬ v 71 (7 + 2 * d) = 0) (hli : zk_lie Gn (v 75)) (e : Nat) (he : e < 5) (hI : v 75 (10 + a) = nI (e + 1)) (T : Nat) (hT : v 75 (5 + e) = nI T) (hT8 : T < 256) (u0 u d : Nat) (hlf : (zr_mtsI n D Gn (v 71) (v 75) a e T (v 76) (v 68 26) (v 80) (v 81) (v 82) (v 79)).2.1 = lN u0) (haw : (zr_mtsI n D Gn (v 71) (v 75) a e T (v 76) (v 68 26) (v 80) (v 81) (v 82) (v 79)).1 = lN d) (hu : u < 2 ^ 63) (hd : 0 < d) (hd2 : d < 2 ^ 63) (z : Int32) (hmu : (v 71 (33 + 2 * a)).toInt64 * lN u0 = lN u) : zk_Cr zk_mt zk_ex Ls xs 267 [.ref 69, .int (nI a), .int (nI n), .int z] (zH v w t) (some (.long (zr_mlow u d z)), zH (zb (zb (zb (zb (zb (zb v 68 (upd (upd (upd (v 68) 0 0) 11 0) 26 ((zr_mtsI n D Gn (v 71) (v 75) a e T (v 76) (v 68 26) (v 80) (v 81) (v 82) (v 79)).2.2.2.1))) 76 (zr_mtsI n D Gn (v 71) (v 75) a e T (v 76) (v 68 26) (v 80) (v 81) (v 82) (v 79)).2.2.1) 79 (zr_mtsI n D Gn (v 71) (v 75) a e T (v 76) (v 68 26) (v 80) (v 81) (v 82) (v 79)).2.2.2.2.2.2.2) 80 (zr_mtsI n D Gn (v 71) (v 75) a e T (v 76) (v 68 26) (v 80) (v 81) (v 82) (v 79)).2.2.2.2.1) 81 (zr_mtsI n D Gn (v 71) (v 75) a e T (v 76) (v 68 26) (v 80) (v 81) (v 82) (v 79)).2.2.2.2.2.1) 82 (zr_mtsI n D Gn (v 71) (v 75) a e T (v 76) (v 68 26) (v 80) (v 81) (v 82) (v 79)).2.2.2.2.2.2.1) (zb w 68 (vp_updL (vp_updL (w 68) 37 (lN d)) 38 (lN u0))) t) := by
  refine zk_Cr.of (K := zm_267) rfl rfl rfl ?_
  show zk_T zk_mt zk_ex Ls xs zm_267 (0, [(0, .ref 69), (1, .int (nI a)), (2, .int (nI n)), (3, .int z)], []) (zH v w t) _
  refine zk_T.adv 1 (f' := (1, [(0, .ref 69), (1, .int (nI a)), (2, .int (nI n)), (3, .int z)], [.ref 69])) (h' := zH v w t) rfl ?_
  refine zk_T.cl (v := none) (h' := zH (zb v 68 (upd (upd (v 68) 0 0) 11 0)) w t) rfl (zs_manew (v := v) (w := w)) ?_
  show zk_T zk_mt zk_ex Ls xs zm_267 (4, [(0, .ref 69), (1, .int (nI a)), (2, .int (nI n)), (3, .int z)], []) (zH (zb v 68 (upd (upd (v 68) 0 0) 11 0)) w t) _
  refine zk_T.adv 3 (f' := (7, [(0, .ref 69), (1, .int (nI a)), (2, .int (nI n)), (3, .int z)], [.int (nI a), .ref 69, .ref 69])) (h' := zH (zb v 68 (upd (upd (v 68) 0 0) 11 0)) w t) rfl ?_
  refine zk_T.cl (v := some (.int 1)) (h' := zH (zb v 68 (upd (upd (v 68) 0 0) 11 0)) w t) rfl (by have ee_ : zk_Cr zk_mt zk_ex Ls xs 117 [.ref 69, .int (nI a)] (zH (zb v 68 (upd (upd (v 68) 0 0) 11 0)) w t) (some (.int (zr_misX (v 68 14) (v 71 3) (nI a))), zH (zb v 68 (upd (upd (v 68) 0 0) 11 0)) w t) := zs_misGood (v := (zb v 68 (upd (upd (v 68) 0 0) 11 0))) (w := w) (nI a); rw [show (zr_misX (v 68 14) (v 71 3) (nI a)) = 1 from hg] at ee_; exact ee_) ?_
  show zk_T zk_mt zk_ex Ls xs zm_267 (10, [(0, .ref 69), (1, .int (nI a)), (2, .int (nI n)), (3, .int z)], [.int 1, .ref 69]) (zH (zb v 68 (upd (upd (v 68) 0 0) 11 0)) w t) _
  refine zk_T.adv 1 (f' := (11, [(0, .ref 69), (1, .int (nI a)), (2, .int (nI n)), (3, .int z)], [.int (nI n), .int 1, .ref 69])) (h' := zH (zb v 68 (upd (upd (v 68) 0 0) 11 0)) w t) rfl ?_
  refine zk_T.cl (v := some (.int 0)) (h' := zH (zb v 68 (upd (upd (v 68) 0 0) 11 0)) w t) rfl (by have ee_ : zk_Cr zk_mt zk_ex Ls xs 108 [.ref 69, .int 1, .int (nI n)] (zH (zb v 68 (upd (upd (v 68) 0 0) 11 0)) w t) (some (.int (zr_maheadWhy 1 (nI n))), zH (zb v 68 (upd (upd (v 68) 0 0) 11 0)) w t) := zs_maheadWhy (v := (zb v 68 (upd (upd (v 68) 0 0) 11 0))) (w := w) 1 (nI n); rw [show (zr_maheadWhy 1 (nI n)) = 0 from (zk_ah1 n hn)] at ee_; exact ee_) ?_
  show zk_T zk_mt zk_ex Ls xs zm_267 (14, [(0, .ref 69), (1, .int (nI a)), (2, .int (nI n)), (3, .int z)], [.int 0]) (zH (zb v 68 (upd (upd (v 68) 0 0) 11 0)) w t) _
  refine zk_T.adv 2 (f' := (18, [(0, .ref 69), (1, .int (nI a)), (2, .int (nI n)), (3, .int z), (4, .int 0)], [.int 0])) (h' := zH (zb v 68 (upd (upd (v 68) 0 0) 11 0)) w t) rfl ?_
  refine zk_T.br (f1 := (29, [(0, .ref 69), (1, .int (nI a)), (2, .int (nI n)), (3, .int z), (4, .int 0)], [])) (f2 := (21, [(0, .ref 69), (1, .int (nI a)), (2, .int (nI n)), (3, .int z), (4, .int 0)], [])) rfl (fun c1 => ?_) (fun c1 => absurd (by decide) (of_decide_eq_false c1))
  refine zk_T.adv 3 (f' := (32, [(0, .ref 69), (1, .int (nI a)), (2, .int (nI n)), (3, .int z), (4, .int 0)], [.int (nI n), .int (nI a), .ref 69])) (h' := zH (zb v 68 (upd (upd (v 68) 0 0) 11 0)) w t) rfl ?_
  refine zk_T.cl (v := none) (h' := zH (zb (zb (zb (zb (zb (zb v 68 (upd (upd (upd (v 68) 0 0) 11 0) 26 ((zr_mtsI n D Gn (v 71) (v 75) a e T (v 76) (v 68 26) (v 80) (v 81) (v 82) (v 79)).2.2.2.1))) 76 ((zr_mtsI n D Gn (v 71) (v 75) a e T (v 76) (v 68 26) (v 80) (v 81) (v 82) (v 79)).2.2.1)) 79 ((zr_mtsI n D Gn (v 71) (v 75) a e T (v 76) (v 68 26) (v 80) (v 81) (v 82) (v 79)).2.2.2.2.2.2.2)) 80 ((zr_mtsI n D Gn (v 71) (v 75) a e T (v 76) (v 68 26) (v 80) (v 81) (v 82) (v 79)).2.2.2.2.1)) 81 ((zr_mtsI n D Gn (v 71) (v 75) a e T (v 76) (v 68 26) (v 80) (v 81) (v 82) (v 79)).2.2.2.2.2.1)) 82 ((zr_mtsI n D Gn (v 71) (v 75) a e T (v 76) (v 68 26) (v 80) (v 81) (v 82) (v 79)).2.2.2.2.2.2.1)) (zb w 68 (vp_updL (vp_updL (w 68) 37 ((zr_mtsI n D Gn (v 71) (v 75) a e T (v 76) (v 68 26) (v 80) (v 81) (v 82) (v 79)).1)) 38 ((zr_mtsI n D Gn (v 71) (v 75) a e T (v 76) (v 68 26) (v 80) (v 81) (v 82) (v 79)).2.1))) t) rfl (zs_mts_I (v := (zb v 68 (upd (upd (v 68) 0 0) 11 0))) (w := w) D hD h8 Gn hG h4 hev hli n hn a ha e he hI T hT hT8) ?_
  show zk_T zk_mt zk_ex Ls xs zm_267 (35, [(0, .ref 69), (1, .int (nI a)), (2, .int (nI n)), (3, .int z), (4, .int 0)], []) (zH (zb (zb (zb (zb (zb (zb v 68 (upd (upd (upd (v 68) 0 0) 11 0) 26 ((zr_mtsI n D Gn (v 71) (v 75) a e T (v 76) (v 68 26) (v 80) (v 81) (v 82) (v 79)).2.2.2.1))) 76 ((zr_mtsI n D Gn (v 71) (v 75) a e T (v 76) (v 68 26) (v 80) (v 81) (v 82) (v 79)).2.2.1)) 79 ((zr_mtsI n D Gn (v 71) (v 75) a e T (v 76) (v 68 26) (v 80) (v 81) (v 82) (v 79)).2.2.2.2.2.2.2)) 80 ((zr_mtsI n D Gn (v 71) (v 75) a e T (v 76) (v 68 26) (v 80) (v 81) (v 82) (v 79)).2.2.2.2.1)) 81 ((zr_mtsI n D Gn (v 71) (v 75) a e T (v 76) (v 68 26) (v 80) (v 81) (v 82) (v 79)).2.2.2.2.2.1)) 82 ((zr_mtsI n D Gn (v 71) (v 75) a e T (v 76) (v 68 26) (v 80) (v 81) (v 82) (v 79)).2.2.2.2.2.2.1)) (zb w 68 (vp_updL (vp_updL (w 68) 37 ((zr_mtsI n D Gn (v 71) (v 75) a e T (v 76) (v 68 26) (v 80) (v 81) (v 82) (v 79)).1)) 38 ((zr_mtsI n D Gn (v 71) (v 75) a e T (v 76) (v 68 26) (v 80) (v 81) (v 82) (v 79)).2.1))) t) _
  obtain ⟨bg1, hbg1⟩ : ∃ z, z = (zr_mtsI n D Gn (v 71) (v 75) a e T (v 76) (v 68 26) (v 80) (v 81) (v 82) (v 79)) := ⟨_, rfl⟩
  rw [← hbg1]
  show zk_T zk_mt zk_ex Ls xs zm_267 (35, [(0, .ref 69), (1, .int (nI a)), (2, .int (nI n)), (3, .int z), (4, .int 0)], []) (zH (zb (zb (zb (zb (zb (zb v 68 (upd (upd (upd (v 68) 0 0) 11 0) 26 (bg1.2.2.2.1))) 76 bg1.2.2.1) 79 bg1.2.2.2.2.2.2.2) 80 bg1.2.2.2.2.1) 81 bg1.2.2.2.2.2.1) 82 bg1.2.2.2.2.2.2.1) (zb w 68 (vp_updL (vp_updL (w 68) 37 (bg1.1)) 38 (bg1.2.1))) t) _
  refine zk_T.adv 6 (f' := (44, [(0, .ref 69), (1, .int (nI a)), (2, .int (nI n)), (3, .int z), (4, .int 0)], [.int (2 * (nI a)), .int 33, .ref 72])) (h' := zH (zb (zb (zb (zb (zb (zb v 68 (upd (upd (upd (v 68) 0 0) 11 0) 26 (bg1.2.2.2.1))) 76 bg1.2.2.1) 79 bg1.2.2.2.2.2.2.2) 80 bg1.2.2.2.2.1) 81 bg1.2.2.2.2.2.1) 82 bg1.2.2.2.2.2.2.1) (zb w 68 (vp_updL (vp_updL (w 68) 37 (bg1.1)) 38 (bg1.2.1))) t) rfl ?_
  rw [show 2 * (nI a) = nI (2 * a) from pk_mul 2 a]
  refine zk_T.adv 1 (f' := (45, [(0, .ref 69), (1, .int (nI a)), (2, .int (nI n)), (3, .int z), (4, .int 0)], [.int (33 + (nI (2 * a))), .ref 72])) (h' := zH (zb (zb (zb (zb (zb (zb v 68 (upd (upd (upd (v 68) 0 0) 11 0) 26 (bg1.2.2.2.1))) 76 bg1.2.2.1) 79 bg1.2.2.2.2.2.2.2) 80 bg1.2.2.2.2.1) 81 bg1.2.2.2.2.2.1) 82 bg1.2.2.2.2.2.2.1) (zb w 68 (vp_updL (vp_updL (w 68) 37 (bg1.1)) 38 (bg1.2.1))) t) rfl ?_
  rw [show 33 + (nI (2 * a)) = nI (33 + (2 * a)) from nI_add 33 (2 * a)]
  refine zk_T.ob (f' := (46, [(0, .ref 69), (1, .int (nI a)), (2, .int (nI n)), (3, .int z), (4, .int 0)], [.int (v 71 (nI (33 + (2 * a))).toNatClampNeg)])) (h' := zH (zb (zb (zb (zb (zb (zb v 68 (upd (upd (upd (v 68) 0 0) 11 0) 26 (bg1.2.2.2.1))) 76 bg1.2.2.1) 79 bg1.2.2.2.2.2.2.2) 80 bg1.2.2.2.2.1) 81 bg1.2.2.2.2.2.1) 82 bg1.2.2.2.2.2.2.1) (zb w 68 (vp_updL (vp_updL (w 68) 37 (bg1.1)) 38 (bg1.2.1))) t) rfl (by first | exact zk_inN (by omega) (by decide) | decide) ?_
  rw [nI_clamp (show (33 + (2 * a)) < 2 ^ 31 by omega)]
  refine zk_T.adv 3 (f' := (51, [(0, .ref 69), (1, .int (nI a)), (2, .int (nI n)), (3, .int z), (4, .int 0)], [.long bg1.2.1, .long (((v 71 (33 + (2 * a))) : Int32).toInt64)])) (h' := zH (zb (zb (zb (zb (zb (zb v 68 (upd (upd (upd (v 68) 0 0) 11 0) 26 (bg1.2.2.2.1))) 76 bg1.2.2.1) 79 bg1.2.2.2.2.2.2.2) 80 bg1.2.2.2.2.1) 81 bg1.2.2.2.2.2.1) 82 bg1.2.2.2.2.2.2.1) (zb w 68 (vp_updL (vp_updL (w 68) 37 (bg1.1)) 38 (bg1.2.1))) t) rfl ?_
  rw [show bg1.2.1 = lN u0 from (by rw [hbg1]; exact hlf)]
  refine zk_T.adv 1 (f' := (52, [(0, .ref 69), (1, .int (nI a)), (2, .int (nI n)), (3, .int z), (4, .int 0)], [.long ((((v 71 (33 + (2 * a))) : Int32).toInt64) * (lN u0))])) (h' := zH (zb (zb (zb (zb (zb (zb v 68 (upd (upd (upd (v 68) 0 0) 11 0) 26 (bg1.2.2.2.1))) 76 bg1.2.2.1) 79 bg1.2.2.2.2.2.2.2) 80 bg1.2.2.2.2.1) 81 bg1.2.2.2.2.2.1) 82 bg1.2.2.2.2.2.2.1) (zb w 68 (vp_updL (vp_updL (w 68) 37 (bg1.1)) 38 (lN u0))) t) rfl ?_
  rw [show (((v 71 (33 + (2 * a))) : Int32).toInt64) * (lN u0) = lN u from hmu]
  refine zk_T.adv 2 (f' := (56, [(0, .ref 69), (1, .int (nI a)), (2, .int (nI n)), (3, .int z), (4, .int 0)], [.long bg1.1, .long (lN u)])) (h' := zH (zb (zb (zb (zb (zb (zb v 68 (upd (upd (upd (v 68) 0 0) 11 0) 26 (bg1.2.2.2.1))) 76 bg1.2.2.1) 79 bg1.2.2.2.2.2.2.2) 80 bg1.2.2.2.2.1) 81 bg1.2.2.2.2.2.1) 82 bg1.2.2.2.2.2.2.1) (zb w 68 (vp_updL (vp_updL (w 68) 37 (bg1.1)) 38 (lN u0))) t) rfl ?_
  rw [show bg1.1 = lN d from (by rw [hbg1]; exact haw)]
  refine zk_T.adv 1 (f' := (57, [(0, .ref 69), (1, .int (nI a)), (2, .int (nI n)), (3, .int z), (4, .int 0)], [.int z, .long (lN d), .long (lN u)])) (h' := zH (zb (zb (zb (zb (zb (zb v 68 (upd (upd (upd (v 68) 0 0) 11 0) 26 (bg1.2.2.2.1))) 76 bg1.2.2.1) 79 bg1.2.2.2.2.2.2.2) 80 bg1.2.2.2.2.1) 81 bg1.2.2.2.2.2.1) 82 bg1.2.2.2.2.2.2.1) (zb w 68 (vp_updL (vp_updL (w 68) 37 (lN d)) 38 (lN u0))) t) rfl ?_
  refine zk_T.cl (v := some (.long (zr_mlow u d z))) (h' := zH (zb (zb (zb (zb (zb (zb v 68 (upd (upd (upd (v 68) 0 0) 11 0) 26 (bg1.2.2.2.1))) 76 bg1.2.2.1) 79 bg1.2.2.2.2.2.2.2) 80 bg1.2.2.2.2.1) 81 bg1.2.2.2.2.2.1) 82 bg1.2.2.2.2.2.2.1) (zb w 68 (vp_updL (vp_updL (w 68) 37 (lN d)) 38 (lN u0))) t) rfl (zs_mlowest (v := (zb (zb (zb (zb (zb (zb v 68 (upd (upd (upd (v 68) 0 0) 11 0) 26 (bg1.2.2.2.1))) 76 bg1.2.2.1) 79 bg1.2.2.2.2.2.2.2) 80 bg1.2.2.2.2.1) 81 bg1.2.2.2.2.2.1) 82 bg1.2.2.2.2.2.2.1)) (w := (zb w 68 (vp_updL (vp_updL (w 68) 37 (lN d)) 38 (lN u0)))) u d hu hd hd2 z) ?_
  show zk_T zk_mt zk_ex Ls xs zm_267 (60, [(0, .ref 69), (1, .int (nI a)), (2, .int (nI n)), (3, .int z), (4, .int 0)], [.long (zr_mlow u d z)]) (zH (zb (zb (zb (zb (zb (zb v 68 (upd (upd (upd (v 68) 0 0) 11 0) 26 (bg1.2.2.2.1))) 76 bg1.2.2.1) 79 bg1.2.2.2.2.2.2.2) 80 bg1.2.2.2.2.1) 81 bg1.2.2.2.2.2.1) 82 bg1.2.2.2.2.2.2.1) (zb w 68 (vp_updL (vp_updL (w 68) 37 (lN d)) 38 (lN u0))) t) _
  subst hbg1
  exact zk_T.rt rfl rfl (by rfl)
/-- BasketKeepModel.year -/
theorem zM_year_t (hst : v 68 14 = 0) : zk_Cr zk_mt zk_ex Ls xs 229 [.ref 69] (zH v w t) (some (.int (-1)), zH (zb v 68 (upd (upd (v 68) 0 0) 11 1)) w t) := by
  refine zk_Cr.of (K := zm_229) rfl rfl rfl ?_
  show zk_T zk_mt zk_ex Ls xs zm_229 (0, [(0, .ref 69)], []) (zH v w t) _
  refine zk_T.adv 1 (f' := (1, [(0, .ref 69)], [.ref 69])) (h' := zH v w t) rfl ?_
  refine zk_T.cl (v := none) (h' := zH (zb v 68 (upd (upd (v 68) 0 0) 11 0)) w t) rfl (zs_manew (v := v) (w := w)) ?_
  show zk_T zk_mt zk_ex Ls xs zm_229 (4, [(0, .ref 69)], []) (zH (zb v 68 (upd (upd (v 68) 0 0) 11 0)) w t) _
  refine zk_T.adv 2 (f' := (8, [(0, .ref 69)], [.int (v 68 14)])) (h' := zH (zb v 68 (upd (upd (v 68) 0 0) 11 0)) w t) rfl ?_
  rw [show (v 68 14) = 0 from hst]
  refine zk_T.br (f1 := (11, [(0, .ref 69)], [])) (f2 := (17, [(0, .ref 69)], [])) rfl (fun c1 => ?_) (fun c1 => absurd (by decide) (of_decide_eq_false c1))
  refine zk_T.adv 2 (f' := (13, [(0, .ref 69)], [.int 1, .ref 69])) (h' := zH (zb v 68 (upd (upd (v 68) 0 0) 11 0)) w t) rfl ?_
  refine zk_T.cl (v := some (.int (-1))) (h' := zH (zb v 68 (upd (upd (v 68) 0 0) 11 1)) w t) rfl (zs_mno (v := (zb v 68 (upd (upd (v 68) 0 0) 11 0))) (w := w) 1) ?_
  show zk_T zk_mt zk_ex Ls xs zm_229 (16, [(0, .ref 69)], [.int (-1)]) (zH (zb v 68 (upd (upd (v 68) 0 0) 11 1)) w t) _
  exact zk_T.rt rfl rfl (by rfl)
/-- BasketKeepModel.year -/
theorem zM_year_3 (hst : v 68 14 = 1) (hy : v 75 15 = 999) : zk_Cr zk_mt zk_ex Ls xs 229 [.ref 69] (zH v w t) (some (.int (-1)), zH (zb v 68 (upd (upd (v 68) 0 0) 11 3)) w t) := by
  refine zk_Cr.of (K := zm_229) rfl rfl rfl ?_
  show zk_T zk_mt zk_ex Ls xs zm_229 (0, [(0, .ref 69)], []) (zH v w t) _
  refine zk_T.adv 1 (f' := (1, [(0, .ref 69)], [.ref 69])) (h' := zH v w t) rfl ?_
  refine zk_T.cl (v := none) (h' := zH (zb v 68 (upd (upd (v 68) 0 0) 11 0)) w t) rfl (zs_manew (v := v) (w := w)) ?_
  show zk_T zk_mt zk_ex Ls xs zm_229 (4, [(0, .ref 69)], []) (zH (zb v 68 (upd (upd (v 68) 0 0) 11 0)) w t) _
  refine zk_T.adv 2 (f' := (8, [(0, .ref 69)], [.int (v 68 14)])) (h' := zH (zb v 68 (upd (upd (v 68) 0 0) 11 0)) w t) rfl ?_
  rw [show (v 68 14) = 1 from hst]
  refine zk_T.br (f1 := (11, [(0, .ref 69)], [])) (f2 := (17, [(0, .ref 69)], [])) rfl (fun c1 => absurd (of_decide_eq_true c1) (by decide)) (fun c1 => ?_)
  refine zk_T.adv 3 (f' := (23, [(0, .ref 69)], [.int 15, .ref 76])) (h' := zH (zb v 68 (upd (upd (v 68) 0 0) 11 0)) w t) rfl ?_
  refine zk_T.ob (f' := (24, [(0, .ref 69)], [.int (v 75 (15 : Int32).toNatClampNeg)])) (h' := zH (zb v 68 (upd (upd (v 68) 0 0) 11 0)) w t) rfl rfl ?_
  show zk_T zk_mt zk_ex Ls xs zm_229 (24, [(0, .ref 69)], [.int (v 75 15)]) (zH (zb v 68 (upd (upd (v 68) 0 0) 11 0)) w t) _
  rw [hy]
  refine zk_T.adv 1 (f' := (27, [(0, .ref 69)], [.int 999, .int 999])) (h' := zH (zb v 68 (upd (upd (v 68) 0 0) 11 0)) w t) rfl ?_
  refine zk_T.br (f1 := (30, [(0, .ref 69)], [])) (f2 := (36, [(0, .ref 69)], [])) rfl (fun c2 => ?_) (fun c2 => absurd (by decide) (of_decide_eq_false c2))
  refine zk_T.adv 2 (f' := (32, [(0, .ref 69)], [.int 3, .ref 69])) (h' := zH (zb v 68 (upd (upd (v 68) 0 0) 11 0)) w t) rfl ?_
  refine zk_T.cl (v := some (.int (-1))) (h' := zH (zb v 68 (upd (upd (v 68) 0 0) 11 3)) w t) rfl (zs_mno (v := (zb v 68 (upd (upd (v 68) 0 0) 11 0))) (w := w) 3) ?_
  show zk_T zk_mt zk_ex Ls xs zm_229 (35, [(0, .ref 69)], [.int (-1)]) (zH (zb v 68 (upd (upd (v 68) 0 0) 11 3)) w t) _
  exact zk_T.rt rfl rfl (by rfl)
/-- BasketKeepModel.year -/
theorem zM_year_f (hst : v 68 14 = 1) (hy : ¬ v 75 15 = 999) (k : Nat) (hk : v 68 23 = nI k) (hk16 : k < 16) (D : Nat) (hD : v 71 1 = nI D) (h8 : D ≤ 8) (Gn : Nat) (hG : v 71 3 = nI Gn) (h4 : Gn ≤ 4) (hev : ∀ d, d < D → ¬ v 71 (7 + 2 * d) = 0) (hli : zk_lie Gn (v 75)) : zk_Cr zk_mt zk_ex Ls xs 229 [.ref 69] (zH v w t) (some (.int (((zr_myear D Gn (v 71) (v 75) (zr_mnoSlips (v 79)) (v 68 26) (v 80) (v 81) (v 82)).1 14) &&& ((v 75 14) ^^^ (-1)))), zH (zb (zb (zb (zb (zb (zb (zb v 68 (upd (upd (upd (upd (v 68) 0 0) 11 0) 23 (nI (k + 1))) 26 ((zr_myear D Gn (v 71) (v 75) (zr_mnoSlips (v 79)) (v 68 26) (v 80) (v 81) (v 82)).2.1))) 75 (zr_myear D Gn (v 71) (v 75) (zr_mnoSlips (v 79)) (v 68 26) (v 80) (v 81) (v 82)).1) 77 (zr_cpSu (v 75) (v 77) (16 * k))) 79 (zr_mnoSlips (v 79))) 80 (zr_myear D Gn (v 71) (v 75) (zr_mnoSlips (v 79)) (v 68 26) (v 80) (v 81) (v 82)).2.2.1) 81 (zr_myear D Gn (v 71) (v 75) (zr_mnoSlips (v 79)) (v 68 26) (v 80) (v 81) (v 82)).2.2.2.1) 82 (zr_myear D Gn (v 71) (v 75) (zr_mnoSlips (v 79)) (v 68 26) (v 80) (v 81) (v 82)).2.2.2.2) w t) := by
  refine zk_Cr.of (K := zm_229) rfl rfl rfl ?_
  show zk_T zk_mt zk_ex Ls xs zm_229 (0, [(0, .ref 69)], []) (zH v w t) _
  refine zk_T.adv 1 (f' := (1, [(0, .ref 69)], [.ref 69])) (h' := zH v w t) rfl ?_
  refine zk_T.cl (v := none) (h' := zH (zb v 68 (upd (upd (v 68) 0 0) 11 0)) w t) rfl (zs_manew (v := v) (w := w)) ?_
  show zk_T zk_mt zk_ex Ls xs zm_229 (4, [(0, .ref 69)], []) (zH (zb v 68 (upd (upd (v 68) 0 0) 11 0)) w t) _
  refine zk_T.adv 2 (f' := (8, [(0, .ref 69)], [.int (v 68 14)])) (h' := zH (zb v 68 (upd (upd (v 68) 0 0) 11 0)) w t) rfl ?_
  rw [show (v 68 14) = 1 from hst]
  refine zk_T.br (f1 := (11, [(0, .ref 69)], [])) (f2 := (17, [(0, .ref 69)], [])) rfl (fun c1 => absurd (of_decide_eq_true c1) (by decide)) (fun c1 => ?_)
  refine zk_T.adv 3 (f' := (23, [(0, .ref 69)], [.int 15, .ref 76])) (h' := zH (zb v 68 (upd (upd (v 68) 0 0) 11 0)) w t) rfl ?_
  refine zk_T.ob (f' := (24, [(0, .ref 69)], [.int (v 75 (15 : Int32).toNatClampNeg)])) (h' := zH (zb v 68 (upd (upd (v 68) 0 0) 11 0)) w t) rfl rfl ?_
  show zk_T zk_mt zk_ex Ls xs zm_229 (24, [(0, .ref 69)], [.int (v 75 15)]) (zH (zb v 68 (upd (upd (v 68) 0 0) 11 0)) w t) _
  refine zk_T.adv 1 (f' := (27, [(0, .ref 69)], [.int 999, .int (v 75 15)])) (h' := zH (zb v 68 (upd (upd (v 68) 0 0) 11 0)) w t) rfl ?_
  refine zk_T.br (f1 := (30, [(0, .ref 69)], [])) (f2 := (36, [(0, .ref 69)], [])) rfl (fun c2 => absurd (of_decide_eq_true c2) hy) (fun c2 => ?_)
  refine zk_T.adv 1 (f' := (37, [(0, .ref 69)], [.ref 69])) (h' := zH (zb v 68 (upd (upd (v 68) 0 0) 11 0)) w t) rfl ?_
  refine zk_T.cl (v := none) (h' := zH (zb (zb v 68 (upd (upd (upd (v 68) 0 0) 11 0) 23 (nI (k + 1)))) 77 (zr_cpSu (v 75) (v 77) (16 * k))) w t) rfl (zs_mnote_f (v := (zb v 68 (upd (upd (v 68) 0 0) 11 0))) (w := w) k hk hk16) ?_
  show zk_T zk_mt zk_ex Ls xs zm_229 (40, [(0, .ref 69)], []) (zH (zb (zb v 68 (upd (upd (upd (v 68) 0 0) 11 0) 23 (nI (k + 1)))) 77 (zr_cpSu (v 75) (v 77) (16 * k))) w t) _
  refine zk_T.adv 1 (f' := (41, [(0, .ref 69)], [.ref 69])) (h' := zH (zb (zb v 68 (upd (upd (upd (v 68) 0 0) 11 0) 23 (nI (k + 1)))) 77 (zr_cpSu (v 75) (v 77) (16 * k))) w t) rfl ?_
  refine zk_T.cl (v := none) (h' := zH (zb (zb (zb v 68 (upd (upd (upd (v 68) 0 0) 11 0) 23 (nI (k + 1)))) 77 (zr_cpSu (v 75) (v 77) (16 * k))) 79 (zr_mnoSlips (v 79))) w t) rfl (zs_mnoSlips (v := (zb (zb v 68 (upd (upd (upd (v 68) 0 0) 11 0) 23 (nI (k + 1)))) 77 (zr_cpSu (v 75) (v 77) (16 * k))))) ?_
  show zk_T zk_mt zk_ex Ls xs zm_229 (44, [(0, .ref 69)], []) (zH (zb (zb (zb v 68 (upd (upd (upd (v 68) 0 0) 11 0) 23 (nI (k + 1)))) 77 (zr_cpSu (v 75) (v 77) (16 * k))) 79 (zr_mnoSlips (v 79))) w t) _
  refine zk_T.adv 3 (f' := (50, [(0, .ref 69)], [.int 14, .ref 76])) (h' := zH (zb (zb (zb v 68 (upd (upd (upd (v 68) 0 0) 11 0) 23 (nI (k + 1)))) 77 (zr_cpSu (v 75) (v 77) (16 * k))) 79 (zr_mnoSlips (v 79))) w t) rfl ?_
  refine zk_T.ob (f' := (51, [(0, .ref 69)], [.int (v 75 (14 : Int32).toNatClampNeg)])) (h' := zH (zb (zb (zb v 68 (upd (upd (upd (v 68) 0 0) 11 0) 23 (nI (k + 1)))) 77 (zr_cpSu (v 75) (v 77) (16 * k))) 79 (zr_mnoSlips (v 79))) w t) rfl rfl ?_
  show zk_T zk_mt zk_ex Ls xs zm_229 (51, [(0, .ref 69)], [.int (v 75 14)]) (zH (zb (zb (zb v 68 (upd (upd (upd (v 68) 0 0) 11 0) 23 (nI (k + 1)))) 77 (zr_cpSu (v 75) (v 77) (16 * k))) 79 (zr_mnoSlips (v 79))) w t) _
  refine zk_T.adv 4 (f' := (57, [(0, .ref 69), (1, .int (v 75 14))], [.ref 76, .ref 69])) (h' := zH (zb (zb (zb v 68 (upd (upd (upd (v 68) 0 0) 11 0) 23 (nI (k + 1)))) 77 (zr_cpSu (v 75) (v 77) (16 * k))) 79 (zr_mnoSlips (v 79))) w t) rfl ?_
  refine zk_T.cl (v := none) (h' := zH (zb (zb (zb (zb (zb (zb (zb v 68 (upd (upd (upd (upd (v 68) 0 0) 11 0) 23 (nI (k + 1))) 26 ((zr_myear D Gn (v 71) (v 75) (zr_mnoSlips (v 79)) (v 68 26) (v 80) (v 81) (v 82)).2.1))) 75 ((zr_myear D Gn (v 71) (v 75) (zr_mnoSlips (v 79)) (v 68 26) (v 80) (v 81) (v 82)).1)) 77 (zr_cpSu (v 75) (v 77) (16 * k))) 79 (zr_mnoSlips (v 79))) 80 ((zr_myear D Gn (v 71) (v 75) (zr_mnoSlips (v 79)) (v 68 26) (v 80) (v 81) (v 82)).2.2.1)) 81 ((zr_myear D Gn (v 71) (v 75) (zr_mnoSlips (v 79)) (v 68 26) (v 80) (v 81) (v 82)).2.2.2.1)) 82 ((zr_myear D Gn (v 71) (v 75) (zr_mnoSlips (v 79)) (v 68 26) (v 80) (v 81) (v 82)).2.2.2.2)) w t) rfl (zs_myearOnS (v := (zb (zb (zb v 68 (upd (upd (upd (v 68) 0 0) 11 0) 23 (nI (k + 1)))) 77 (zr_cpSu (v 75) (v 77) (16 * k))) 79 (zr_mnoSlips (v 79)))) (w := w) D hD h8 Gn hG h4 hev hli) ?_
  show zk_T zk_mt zk_ex Ls xs zm_229 (60, [(0, .ref 69), (1, .int (v 75 14))], []) (zH (zb (zb (zb (zb (zb (zb (zb v 68 (upd (upd (upd (upd (v 68) 0 0) 11 0) 23 (nI (k + 1))) 26 ((zr_myear D Gn (v 71) (v 75) (zr_mnoSlips (v 79)) (v 68 26) (v 80) (v 81) (v 82)).2.1))) 75 ((zr_myear D Gn (v 71) (v 75) (zr_mnoSlips (v 79)) (v 68 26) (v 80) (v 81) (v 82)).1)) 77 (zr_cpSu (v 75) (v 77) (16 * k))) 79 (zr_mnoSlips (v 79))) 80 ((zr_myear D Gn (v 71) (v 75) (zr_mnoSlips (v 79)) (v 68 26) (v 80) (v 81) (v 82)).2.2.1)) 81 ((zr_myear D Gn (v 71) (v 75) (zr_mnoSlips (v 79)) (v 68 26) (v 80) (v 81) (v 82)).2.2.2.1)) 82 ((zr_myear D Gn (v 71) (v 75) (zr_mnoSlips (v 79)) (v 68 26) (v 80) (v 81) (v 82)).2.2.2.2)) w t) _
  obtain ⟨bg1, hbg1⟩ : ∃ z, z = (zr_myear D Gn (v 71) (v 75) (zr_mnoSlips (v 79)) (v 68 26) (v 80) (v 81) (v 82)) := ⟨_, rfl⟩
  rw [← hbg1]
  show zk_T zk_mt zk_ex Ls xs zm_229 (60, [(0, .ref 69), (1, .int (v 75 14))], []) (zH (zb (zb (zb (zb (zb (zb (zb v 68 (upd (upd (upd (upd (v 68) 0 0) 11 0) 23 (nI (k + 1))) 26 (bg1.2.1))) 75 bg1.1) 77 (zr_cpSu (v 75) (v 77) (16 * k))) 79 (zr_mnoSlips (v 79))) 80 bg1.2.2.1) 81 bg1.2.2.2.1) 82 bg1.2.2.2.2) w t) _
  refine zk_T.adv 3 (f' := (66, [(0, .ref 69), (1, .int (v 75 14))], [.int 14, .ref 76])) (h' := zH (zb (zb (zb (zb (zb (zb (zb v 68 (upd (upd (upd (upd (v 68) 0 0) 11 0) 23 (nI (k + 1))) 26 (bg1.2.1))) 75 bg1.1) 77 (zr_cpSu (v 75) (v 77) (16 * k))) 79 (zr_mnoSlips (v 79))) 80 bg1.2.2.1) 81 bg1.2.2.2.1) 82 bg1.2.2.2.2) w t) rfl ?_
  refine zk_T.ob (f' := (67, [(0, .ref 69), (1, .int (v 75 14))], [.int (bg1.1 (14 : Int32).toNatClampNeg)])) (h' := zH (zb (zb (zb (zb (zb (zb (zb v 68 (upd (upd (upd (upd (v 68) 0 0) 11 0) 23 (nI (k + 1))) 26 (bg1.2.1))) 75 bg1.1) 77 (zr_cpSu (v 75) (v 77) (16 * k))) 79 (zr_mnoSlips (v 79))) 80 bg1.2.2.1) 81 bg1.2.2.2.1) 82 bg1.2.2.2.2) w t) rfl rfl ?_
  show zk_T zk_mt zk_ex Ls xs zm_229 (67, [(0, .ref 69), (1, .int (v 75 14))], [.int (bg1.1 14)]) (zH (zb (zb (zb (zb (zb (zb (zb v 68 (upd (upd (upd (upd (v 68) 0 0) 11 0) 23 (nI (k + 1))) 26 (bg1.2.1))) 75 bg1.1) 77 (zr_cpSu (v 75) (v 77) (16 * k))) 79 (zr_mnoSlips (v 79))) 80 bg1.2.2.1) 81 bg1.2.2.2.1) 82 bg1.2.2.2.2) w t) _
  refine zk_T.adv 4 (f' := (71, [(0, .ref 69), (1, .int (v 75 14))], [.int ((bg1.1 14) &&& ((v 75 14) ^^^ (-1)))])) (h' := zH (zb (zb (zb (zb (zb (zb (zb v 68 (upd (upd (upd (upd (v 68) 0 0) 11 0) 23 (nI (k + 1))) 26 (bg1.2.1))) 75 bg1.1) 77 (zr_cpSu (v 75) (v 77) (16 * k))) 79 (zr_mnoSlips (v 79))) 80 bg1.2.2.1) 81 bg1.2.2.2.1) 82 bg1.2.2.2.2) w t) rfl ?_
  subst hbg1
  exact zk_T.rt rfl rfl (by rfl)
set_option maxRecDepth 20000 in
/-- BasketKeepModel.year -/
theorem zM_year_g (hst : v 68 14 = 1) (hy : ¬ v 75 15 = 999) (hk : v 68 23 = 16) (D : Nat) (hD : v 71 1 = nI D) (h8 : D ≤ 8) (Gn : Nat) (hG : v 71 3 = nI Gn) (h4 : Gn ≤ 4) (hev : ∀ d, d < D → ¬ v 71 (7 + 2 * d) = 0) (hli : zk_lie Gn (v 75)) : zk_Cr zk_mt zk_ex Ls xs 229 [.ref 69] (zH v w t) (some (.int (((zr_myear D Gn (v 71) (v 75) (zr_mnoSlips (v 79)) (v 68 26) (v 80) (v 81) (v 82)).1 14) &&& ((v 75 14) ^^^ (-1)))), zH (zb (zb (zb (zb (zb (zb (zb v 68 (upd (upd (upd (upd (v 68) 0 0) 11 0) 23 16) 26 ((zr_myear D Gn (v 71) (v 75) (zr_mnoSlips (v 79)) (v 68 26) (v 80) (v 81) (v 82)).2.1))) 75 (zr_myear D Gn (v 71) (v 75) (zr_mnoSlips (v 79)) (v 68 26) (v 80) (v 81) (v 82)).1) 77 (zr_cpSu (v 75) (zf zl_mnoteG 240 0 (v 77)) 240)) 79 (zr_mnoSlips (v 79))) 80 (zr_myear D Gn (v 71) (v 75) (zr_mnoSlips (v 79)) (v 68 26) (v 80) (v 81) (v 82)).2.2.1) 81 (zr_myear D Gn (v 71) (v 75) (zr_mnoSlips (v 79)) (v 68 26) (v 80) (v 81) (v 82)).2.2.2.1) 82 (zr_myear D Gn (v 71) (v 75) (zr_mnoSlips (v 79)) (v 68 26) (v 80) (v 81) (v 82)).2.2.2.2) w t) := by
  refine zk_Cr.of (K := zm_229) rfl rfl rfl ?_
  show zk_T zk_mt zk_ex Ls xs zm_229 (0, [(0, .ref 69)], []) (zH v w t) _
  refine zk_T.adv 1 (f' := (1, [(0, .ref 69)], [.ref 69])) (h' := zH v w t) rfl ?_
  refine zk_T.cl (v := none) (h' := zH (zb v 68 (upd (upd (v 68) 0 0) 11 0)) w t) rfl (zs_manew (v := v) (w := w)) ?_
  show zk_T zk_mt zk_ex Ls xs zm_229 (4, [(0, .ref 69)], []) (zH (zb v 68 (upd (upd (v 68) 0 0) 11 0)) w t) _
  refine zk_T.adv 2 (f' := (8, [(0, .ref 69)], [.int (v 68 14)])) (h' := zH (zb v 68 (upd (upd (v 68) 0 0) 11 0)) w t) rfl ?_
  rw [show (v 68 14) = 1 from hst]
  refine zk_T.br (f1 := (11, [(0, .ref 69)], [])) (f2 := (17, [(0, .ref 69)], [])) rfl (fun c1 => absurd (of_decide_eq_true c1) (by decide)) (fun c1 => ?_)
  refine zk_T.adv 3 (f' := (23, [(0, .ref 69)], [.int 15, .ref 76])) (h' := zH (zb v 68 (upd (upd (v 68) 0 0) 11 0)) w t) rfl ?_
  refine zk_T.ob (f' := (24, [(0, .ref 69)], [.int (v 75 (15 : Int32).toNatClampNeg)])) (h' := zH (zb v 68 (upd (upd (v 68) 0 0) 11 0)) w t) rfl rfl ?_
  show zk_T zk_mt zk_ex Ls xs zm_229 (24, [(0, .ref 69)], [.int (v 75 15)]) (zH (zb v 68 (upd (upd (v 68) 0 0) 11 0)) w t) _
  refine zk_T.adv 1 (f' := (27, [(0, .ref 69)], [.int 999, .int (v 75 15)])) (h' := zH (zb v 68 (upd (upd (v 68) 0 0) 11 0)) w t) rfl ?_
  refine zk_T.br (f1 := (30, [(0, .ref 69)], [])) (f2 := (36, [(0, .ref 69)], [])) rfl (fun c2 => absurd (of_decide_eq_true c2) hy) (fun c2 => ?_)
  refine zk_T.adv 1 (f' := (37, [(0, .ref 69)], [.ref 69])) (h' := zH (zb v 68 (upd (upd (v 68) 0 0) 11 0)) w t) rfl ?_
  refine zk_T.cl (v := none) (h' := zH (zb (zb v 68 (upd (upd (upd (v 68) 0 0) 11 0) 23 16)) 77 (zr_cpSu (v 75) (zf zl_mnoteG 240 0 (v 77)) 240)) w t) rfl (zs_mnote_16 (v := (zb v 68 (upd (upd (v 68) 0 0) 11 0))) (w := w) hk) ?_
  show zk_T zk_mt zk_ex Ls xs zm_229 (40, [(0, .ref 69)], []) (zH (zb (zb v 68 (upd (upd (upd (v 68) 0 0) 11 0) 23 16)) 77 (zr_cpSu (v 75) (zf zl_mnoteG 240 0 (v 77)) 240)) w t) _
  refine zk_T.adv 1 (f' := (41, [(0, .ref 69)], [.ref 69])) (h' := zH (zb (zb v 68 (upd (upd (upd (v 68) 0 0) 11 0) 23 16)) 77 (zr_cpSu (v 75) (zf zl_mnoteG 240 0 (v 77)) 240)) w t) rfl ?_
  refine zk_T.cl (v := none) (h' := zH (zb (zb (zb v 68 (upd (upd (upd (v 68) 0 0) 11 0) 23 16)) 77 (zr_cpSu (v 75) (zf zl_mnoteG 240 0 (v 77)) 240)) 79 (zr_mnoSlips (v 79))) w t) rfl (zs_mnoSlips (v := (zb (zb v 68 (upd (upd (upd (v 68) 0 0) 11 0) 23 16)) 77 (zr_cpSu (v 75) (zf zl_mnoteG 240 0 (v 77)) 240)))) ?_
  show zk_T zk_mt zk_ex Ls xs zm_229 (44, [(0, .ref 69)], []) (zH (zb (zb (zb v 68 (upd (upd (upd (v 68) 0 0) 11 0) 23 16)) 77 (zr_cpSu (v 75) (zf zl_mnoteG 240 0 (v 77)) 240)) 79 (zr_mnoSlips (v 79))) w t) _
  refine zk_T.adv 3 (f' := (50, [(0, .ref 69)], [.int 14, .ref 76])) (h' := zH (zb (zb (zb v 68 (upd (upd (upd (v 68) 0 0) 11 0) 23 16)) 77 (zr_cpSu (v 75) (zf zl_mnoteG 240 0 (v 77)) 240)) 79 (zr_mnoSlips (v 79))) w t) rfl ?_
  refine zk_T.ob (f' := (51, [(0, .ref 69)], [.int (v 75 (14 : Int32).toNatClampNeg)])) (h' := zH (zb (zb (zb v 68 (upd (upd (upd (v 68) 0 0) 11 0) 23 16)) 77 (zr_cpSu (v 75) (zf zl_mnoteG 240 0 (v 77)) 240)) 79 (zr_mnoSlips (v 79))) w t) rfl rfl ?_
  show zk_T zk_mt zk_ex Ls xs zm_229 (51, [(0, .ref 69)], [.int (v 75 14)]) (zH (zb (zb (zb v 68 (upd (upd (upd (v 68) 0 0) 11 0) 23 16)) 77 (zr_cpSu (v 75) (zf zl_mnoteG 240 0 (v 77)) 240)) 79 (zr_mnoSlips (v 79))) w t) _
  refine zk_T.adv 4 (f' := (57, [(0, .ref 69), (1, .int (v 75 14))], [.ref 76, .ref 69])) (h' := zH (zb (zb (zb v 68 (upd (upd (upd (v 68) 0 0) 11 0) 23 16)) 77 (zr_cpSu (v 75) (zf zl_mnoteG 240 0 (v 77)) 240)) 79 (zr_mnoSlips (v 79))) w t) rfl ?_
  refine zk_T.cl (v := none) (h' := zH (zb (zb (zb (zb (zb (zb (zb v 68 (upd (upd (upd (upd (v 68) 0 0) 11 0) 23 16) 26 ((zr_myear D Gn (v 71) (v 75) (zr_mnoSlips (v 79)) (v 68 26) (v 80) (v 81) (v 82)).2.1))) 75 ((zr_myear D Gn (v 71) (v 75) (zr_mnoSlips (v 79)) (v 68 26) (v 80) (v 81) (v 82)).1)) 77 (zr_cpSu (v 75) (zf zl_mnoteG 240 0 (v 77)) 240)) 79 (zr_mnoSlips (v 79))) 80 ((zr_myear D Gn (v 71) (v 75) (zr_mnoSlips (v 79)) (v 68 26) (v 80) (v 81) (v 82)).2.2.1)) 81 ((zr_myear D Gn (v 71) (v 75) (zr_mnoSlips (v 79)) (v 68 26) (v 80) (v 81) (v 82)).2.2.2.1)) 82 ((zr_myear D Gn (v 71) (v 75) (zr_mnoSlips (v 79)) (v 68 26) (v 80) (v 81) (v 82)).2.2.2.2)) w t) rfl (zs_myearOnS (v := (zb (zb (zb v 68 (upd (upd (upd (v 68) 0 0) 11 0) 23 16)) 77 (zr_cpSu (v 75) (zf zl_mnoteG 240 0 (v 77)) 240)) 79 (zr_mnoSlips (v 79)))) (w := w) D hD h8 Gn hG h4 hev hli) ?_
  show zk_T zk_mt zk_ex Ls xs zm_229 (60, [(0, .ref 69), (1, .int (v 75 14))], []) (zH (zb (zb (zb (zb (zb (zb (zb v 68 (upd (upd (upd (upd (v 68) 0 0) 11 0) 23 16) 26 ((zr_myear D Gn (v 71) (v 75) (zr_mnoSlips (v 79)) (v 68 26) (v 80) (v 81) (v 82)).2.1))) 75 ((zr_myear D Gn (v 71) (v 75) (zr_mnoSlips (v 79)) (v 68 26) (v 80) (v 81) (v 82)).1)) 77 (zr_cpSu (v 75) (zf zl_mnoteG 240 0 (v 77)) 240)) 79 (zr_mnoSlips (v 79))) 80 ((zr_myear D Gn (v 71) (v 75) (zr_mnoSlips (v 79)) (v 68 26) (v 80) (v 81) (v 82)).2.2.1)) 81 ((zr_myear D Gn (v 71) (v 75) (zr_mnoSlips (v 79)) (v 68 26) (v 80) (v 81) (v 82)).2.2.2.1)) 82 ((zr_myear D Gn (v 71) (v 75) (zr_mnoSlips (v 79)) (v 68 26) (v 80) (v 81) (v 82)).2.2.2.2)) w t) _
  obtain ⟨bg1, hbg1⟩ : ∃ z, z = (zr_myear D Gn (v 71) (v 75) (zr_mnoSlips (v 79)) (v 68 26) (v 80) (v 81) (v 82)) := ⟨_, rfl⟩
  rw [← hbg1]
  show zk_T zk_mt zk_ex Ls xs zm_229 (60, [(0, .ref 69), (1, .int (v 75 14))], []) (zH (zb (zb (zb (zb (zb (zb (zb v 68 (upd (upd (upd (upd (v 68) 0 0) 11 0) 23 16) 26 (bg1.2.1))) 75 bg1.1) 77 (zr_cpSu (v 75) (zf zl_mnoteG 240 0 (v 77)) 240)) 79 (zr_mnoSlips (v 79))) 80 bg1.2.2.1) 81 bg1.2.2.2.1) 82 bg1.2.2.2.2) w t) _
  refine zk_T.adv 3 (f' := (66, [(0, .ref 69), (1, .int (v 75 14))], [.int 14, .ref 76])) (h' := zH (zb (zb (zb (zb (zb (zb (zb v 68 (upd (upd (upd (upd (v 68) 0 0) 11 0) 23 16) 26 (bg1.2.1))) 75 bg1.1) 77 (zr_cpSu (v 75) (zf zl_mnoteG 240 0 (v 77)) 240)) 79 (zr_mnoSlips (v 79))) 80 bg1.2.2.1) 81 bg1.2.2.2.1) 82 bg1.2.2.2.2) w t) rfl ?_
  refine zk_T.ob (f' := (67, [(0, .ref 69), (1, .int (v 75 14))], [.int (bg1.1 (14 : Int32).toNatClampNeg)])) (h' := zH (zb (zb (zb (zb (zb (zb (zb v 68 (upd (upd (upd (upd (v 68) 0 0) 11 0) 23 16) 26 (bg1.2.1))) 75 bg1.1) 77 (zr_cpSu (v 75) (zf zl_mnoteG 240 0 (v 77)) 240)) 79 (zr_mnoSlips (v 79))) 80 bg1.2.2.1) 81 bg1.2.2.2.1) 82 bg1.2.2.2.2) w t) rfl rfl ?_
  show zk_T zk_mt zk_ex Ls xs zm_229 (67, [(0, .ref 69), (1, .int (v 75 14))], [.int (bg1.1 14)]) (zH (zb (zb (zb (zb (zb (zb (zb v 68 (upd (upd (upd (upd (v 68) 0 0) 11 0) 23 16) 26 (bg1.2.1))) 75 bg1.1) 77 (zr_cpSu (v 75) (zf zl_mnoteG 240 0 (v 77)) 240)) 79 (zr_mnoSlips (v 79))) 80 bg1.2.2.1) 81 bg1.2.2.2.1) 82 bg1.2.2.2.2) w t) _
  refine zk_T.adv 4 (f' := (71, [(0, .ref 69), (1, .int (v 75 14))], [.int ((bg1.1 14) &&& ((v 75 14) ^^^ (-1)))])) (h' := zH (zb (zb (zb (zb (zb (zb (zb v 68 (upd (upd (upd (upd (v 68) 0 0) 11 0) 23 16) 26 (bg1.2.1))) 75 bg1.1) 77 (zr_cpSu (v 75) (zf zl_mnoteG 240 0 (v 77)) 240)) 79 (zr_mnoSlips (v 79))) 80 bg1.2.2.1) 81 bg1.2.2.2.1) 82 bg1.2.2.2.2) w t) rfl ?_
  subst hbg1
  exact zk_T.rt rfl rfl (by rfl)
/-- BasketKeepModel.put -/
theorem zM_put_t (x y : Int32) (hg : zr_misX (v 68 14) (v 71 3) x = 0) : zk_Cr zk_mt zk_ex Ls xs 174 [.ref 69, .int x, .int y] (zH v w t) (some (.int (-1)), zH (zb v 68 (upd (upd (v 68) 0 0) 11 1)) w t) := by
  refine zk_Cr.of (K := zm_174) rfl rfl rfl ?_
  show zk_T zk_mt zk_ex Ls xs zm_174 (0, [(0, .ref 69), (1, .int x), (2, .int y)], []) (zH v w t) _
  refine zk_T.adv 1 (f' := (1, [(0, .ref 69), (1, .int x), (2, .int y)], [.ref 69])) (h' := zH v w t) rfl ?_
  refine zk_T.cl (v := none) (h' := zH (zb v 68 (upd (upd (v 68) 0 0) 11 0)) w t) rfl (zs_manew (v := v) (w := w)) ?_
  show zk_T zk_mt zk_ex Ls xs zm_174 (4, [(0, .ref 69), (1, .int x), (2, .int y)], []) (zH (zb v 68 (upd (upd (v 68) 0 0) 11 0)) w t) _
  refine zk_T.adv 2 (f' := (6, [(0, .ref 69), (1, .int x), (2, .int y)], [.int x, .ref 69])) (h' := zH (zb v 68 (upd (upd (v 68) 0 0) 11 0)) w t) rfl ?_
  refine zk_T.cl (v := some (.int 0)) (h' := zH (zb v 68 (upd (upd (v 68) 0 0) 11 0)) w t) rfl (by have ee_ : zk_Cr zk_mt zk_ex Ls xs 117 [.ref 69, .int x] (zH (zb v 68 (upd (upd (v 68) 0 0) 11 0)) w t) (some (.int (zr_misX (v 68 14) (v 71 3) x)), zH (zb v 68 (upd (upd (v 68) 0 0) 11 0)) w t) := zs_misGood (v := (zb v 68 (upd (upd (v 68) 0 0) 11 0))) (w := w) x; rw [show (zr_misX (v 68 14) (v 71 3) x) = 0 from hg] at ee_; exact ee_) ?_
  show zk_T zk_mt zk_ex Ls xs zm_174 (9, [(0, .ref 69), (1, .int x), (2, .int y)], [.int 0]) (zH (zb v 68 (upd (upd (v 68) 0 0) 11 0)) w t) _
  refine zk_T.br (f1 := (20, [(0, .ref 69), (1, .int x), (2, .int y)], [])) (f2 := (12, [(0, .ref 69), (1, .int x), (2, .int y)], [])) rfl (fun c1 => ?_) (fun c1 => absurd (by decide) (of_decide_eq_false c1))
  refine zk_T.adv 2 (f' := (22, [(0, .ref 69), (1, .int x), (2, .int y)], [.int 1, .ref 69])) (h' := zH (zb v 68 (upd (upd (v 68) 0 0) 11 0)) w t) rfl ?_
  refine zk_T.cl (v := some (.int (-1))) (h' := zH (zb v 68 (upd (upd (v 68) 0 0) 11 1)) w t) rfl (zs_mno (v := (zb v 68 (upd (upd (v 68) 0 0) 11 0))) (w := w) 1) ?_
  show zk_T zk_mt zk_ex Ls xs zm_174 (25, [(0, .ref 69), (1, .int x), (2, .int y)], [.int (-1)]) (zH (zb v 68 (upd (upd (v 68) 0 0) 11 1)) w t) _
  exact zk_T.rt rfl rfl (by rfl)
/-- BasketKeepModel.put -/
theorem zM_put_m (x y : Int32) (hg : zr_misX (v 68 14) (v 71 3) x = 1) (hg2 : zr_misX (v 68 14) (v 71 2) y = 0) : zk_Cr zk_mt zk_ex Ls xs 174 [.ref 69, .int x, .int y] (zH v w t) (some (.int (-1)), zH (zb v 68 (upd (upd (v 68) 0 0) 11 1)) w t) := by
  refine zk_Cr.of (K := zm_174) rfl rfl rfl ?_
  show zk_T zk_mt zk_ex Ls xs zm_174 (0, [(0, .ref 69), (1, .int x), (2, .int y)], []) (zH v w t) _
  refine zk_T.adv 1 (f' := (1, [(0, .ref 69), (1, .int x), (2, .int y)], [.ref 69])) (h' := zH v w t) rfl ?_
  refine zk_T.cl (v := none) (h' := zH (zb v 68 (upd (upd (v 68) 0 0) 11 0)) w t) rfl (zs_manew (v := v) (w := w)) ?_
  show zk_T zk_mt zk_ex Ls xs zm_174 (4, [(0, .ref 69), (1, .int x), (2, .int y)], []) (zH (zb v 68 (upd (upd (v 68) 0 0) 11 0)) w t) _
  refine zk_T.adv 2 (f' := (6, [(0, .ref 69), (1, .int x), (2, .int y)], [.int x, .ref 69])) (h' := zH (zb v 68 (upd (upd (v 68) 0 0) 11 0)) w t) rfl ?_
  refine zk_T.cl (v := some (.int 1)) (h' := zH (zb v 68 (upd (upd (v 68) 0 0) 11 0)) w t) rfl (by have ee_ : zk_Cr zk_mt zk_ex Ls xs 117 [.ref 69, .int x] (zH (zb v 68 (upd (upd (v 68) 0 0) 11 0)) w t) (some (.int (zr_misX (v 68 14) (v 71 3) x)), zH (zb v 68 (upd (upd (v 68) 0 0) 11 0)) w t) := zs_misGood (v := (zb v 68 (upd (upd (v 68) 0 0) 11 0))) (w := w) x; rw [show (zr_misX (v 68 14) (v 71 3) x) = 1 from hg] at ee_; exact ee_) ?_
  show zk_T zk_mt zk_ex Ls xs zm_174 (9, [(0, .ref 69), (1, .int x), (2, .int y)], [.int 1]) (zH (zb v 68 (upd (upd (v 68) 0 0) 11 0)) w t) _
  refine zk_T.br (f1 := (20, [(0, .ref 69), (1, .int x), (2, .int y)], [])) (f2 := (12, [(0, .ref 69), (1, .int x), (2, .int y)], [])) rfl (fun c1 => absurd (of_decide_eq_true c1) (by decide)) (fun c1 => ?_)
  refine zk_T.adv 2 (f' := (14, [(0, .ref 69), (1, .int x), (2, .int y)], [.int y, .ref 69])) (h' := zH (zb v 68 (upd (upd (v 68) 0 0) 11 0)) w t) rfl ?_
  refine zk_T.cl (v := some (.int 0)) (h' := zH (zb v 68 (upd (upd (v 68) 0 0) 11 0)) w t) rfl (by have ee_ : zk_Cr zk_mt zk_ex Ls xs 118 [.ref 69, .int y] (zH (zb v 68 (upd (upd (v 68) 0 0) 11 0)) w t) (some (.int (zr_misX (v 68 14) (v 71 2) y)), zH (zb v 68 (upd (upd (v 68) 0 0) 11 0)) w t) := zs_misMaker (v := (zb v 68 (upd (upd (v 68) 0 0) 11 0))) (w := w) y; rw [show (zr_misX (v 68 14) (v 71 2) y) = 0 from hg2] at ee_; exact ee_) ?_
  show zk_T zk_mt zk_ex Ls xs zm_174 (17, [(0, .ref 69), (1, .int x), (2, .int y)], [.int 0]) (zH (zb v 68 (upd (upd (v 68) 0 0) 11 0)) w t) _
  refine zk_T.br (f1 := (20, [(0, .ref 69), (1, .int x), (2, .int y)], [])) (f2 := (26, [(0, .ref 69), (1, .int x), (2, .int y)], [])) rfl (fun c2 => ?_) (fun c2 => absurd (by decide) (of_decide_eq_false c2))
  refine zk_T.adv 2 (f' := (22, [(0, .ref 69), (1, .int x), (2, .int y)], [.int 1, .ref 69])) (h' := zH (zb v 68 (upd (upd (v 68) 0 0) 11 0)) w t) rfl ?_
  refine zk_T.cl (v := some (.int (-1))) (h' := zH (zb v 68 (upd (upd (v 68) 0 0) 11 1)) w t) rfl (zs_mno (v := (zb v 68 (upd (upd (v 68) 0 0) 11 0))) (w := w) 1) ?_
  show zk_T zk_mt zk_ex Ls xs zm_174 (25, [(0, .ref 69), (1, .int x), (2, .int y)], [.int (-1)]) (zH (zb v 68 (upd (upd (v 68) 0 0) 11 1)) w t) _
  exact zk_T.rt rfl rfl (by rfl)
/-- BasketKeepModel.put -/
theorem zM_put_5a (a e : Nat) (ha : a < 4) (he : e < 5) (hg : zr_misX (v 68 14) (v 71 3) (nI a) = 1) (hg2 : zr_misX (v 68 14) (v 71 2) (nI e) = 1) (hlo : zr_mhasBit (v 75 14) (nI a) = 1) : zk_Cr zk_mt zk_ex Ls xs 174 [.ref 69, .int (nI a), .int (nI e)] (zH v w t) (some (.int (-1)), zH (zb v 68 (upd (upd (v 68) 0 0) 11 5)) w t) := by
  refine zk_Cr.of (K := zm_174) rfl rfl rfl ?_
  show zk_T zk_mt zk_ex Ls xs zm_174 (0, [(0, .ref 69), (1, .int (nI a)), (2, .int (nI e))], []) (zH v w t) _
  refine zk_T.adv 1 (f' := (1, [(0, .ref 69), (1, .int (nI a)), (2, .int (nI e))], [.ref 69])) (h' := zH v w t) rfl ?_
  refine zk_T.cl (v := none) (h' := zH (zb v 68 (upd (upd (v 68) 0 0) 11 0)) w t) rfl (zs_manew (v := v) (w := w)) ?_
  show zk_T zk_mt zk_ex Ls xs zm_174 (4, [(0, .ref 69), (1, .int (nI a)), (2, .int (nI e))], []) (zH (zb v 68 (upd (upd (v 68) 0 0) 11 0)) w t) _
  refine zk_T.adv 2 (f' := (6, [(0, .ref 69), (1, .int (nI a)), (2, .int (nI e))], [.int (nI a), .ref 69])) (h' := zH (zb v 68 (upd (upd (v 68) 0 0) 11 0)) w t) rfl ?_
  refine zk_T.cl (v := some (.int 1)) (h' := zH (zb v 68 (upd (upd (v 68) 0 0) 11 0)) w t) rfl (by have ee_ : zk_Cr zk_mt zk_ex Ls xs 117 [.ref 69, .int (nI a)] (zH (zb v 68 (upd (upd (v 68) 0 0) 11 0)) w t) (some (.int (zr_misX (v 68 14) (v 71 3) (nI a))), zH (zb v 68 (upd (upd (v 68) 0 0) 11 0)) w t) := zs_misGood (v := (zb v 68 (upd (upd (v 68) 0 0) 11 0))) (w := w) (nI a); rw [show (zr_misX (v 68 14) (v 71 3) (nI a)) = 1 from hg] at ee_; exact ee_) ?_
  show zk_T zk_mt zk_ex Ls xs zm_174 (9, [(0, .ref 69), (1, .int (nI a)), (2, .int (nI e))], [.int 1]) (zH (zb v 68 (upd (upd (v 68) 0 0) 11 0)) w t) _
  refine zk_T.br (f1 := (20, [(0, .ref 69), (1, .int (nI a)), (2, .int (nI e))], [])) (f2 := (12, [(0, .ref 69), (1, .int (nI a)), (2, .int (nI e))], [])) rfl (fun c1 => absurd (of_decide_eq_true c1) (by decide)) (fun c1 => ?_)
  refine zk_T.adv 2 (f' := (14, [(0, .ref 69), (1, .int (nI a)), (2, .int (nI e))], [.int (nI e), .ref 69])) (h' := zH (zb v 68 (upd (upd (v 68) 0 0) 11 0)) w t) rfl ?_
  refine zk_T.cl (v := some (.int 1)) (h' := zH (zb v 68 (upd (upd (v 68) 0 0) 11 0)) w t) rfl (by have ee_ : zk_Cr zk_mt zk_ex Ls xs 118 [.ref 69, .int (nI e)] (zH (zb v 68 (upd (upd (v 68) 0 0) 11 0)) w t) (some (.int (zr_misX (v 68 14) (v 71 2) (nI e))), zH (zb v 68 (upd (upd (v 68) 0 0) 11 0)) w t) := zs_misMaker (v := (zb v 68 (upd (upd (v 68) 0 0) 11 0))) (w := w) (nI e); rw [show (zr_misX (v 68 14) (v 71 2) (nI e)) = 1 from hg2] at ee_; exact ee_) ?_
  show zk_T zk_mt zk_ex Ls xs zm_174 (17, [(0, .ref 69), (1, .int (nI a)), (2, .int (nI e))], [.int 1]) (zH (zb v 68 (upd (upd (v 68) 0 0) 11 0)) w t) _
  refine zk_T.br (f1 := (20, [(0, .ref 69), (1, .int (nI a)), (2, .int (nI e))], [])) (f2 := (26, [(0, .ref 69), (1, .int (nI a)), (2, .int (nI e))], [])) rfl (fun c2 => absurd (of_decide_eq_true c2) (by decide)) (fun c2 => ?_)
  refine zk_T.adv 3 (f' := (32, [(0, .ref 69), (1, .int (nI a)), (2, .int (nI e))], [.int 14, .ref 76])) (h' := zH (zb v 68 (upd (upd (v 68) 0 0) 11 0)) w t) rfl ?_
  refine zk_T.ob (f' := (33, [(0, .ref 69), (1, .int (nI a)), (2, .int (nI e))], [.int (v 75 (14 : Int32).toNatClampNeg)])) (h' := zH (zb v 68 (upd (upd (v 68) 0 0) 11 0)) w t) rfl rfl ?_
  show zk_T zk_mt zk_ex Ls xs zm_174 (33, [(0, .ref 69), (1, .int (nI a)), (2, .int (nI e))], [.int (v 75 14)]) (zH (zb v 68 (upd (upd (v 68) 0 0) 11 0)) w t) _
  refine zk_T.adv 1 (f' := (34, [(0, .ref 69), (1, .int (nI a)), (2, .int (nI e))], [.int (nI a), .int (v 75 14)])) (h' := zH (zb v 68 (upd (upd (v 68) 0 0) 11 0)) w t) rfl ?_
  refine zk_T.cl (v := some (.int 1)) (h' := zH (zb v 68 (upd (upd (v 68) 0 0) 11 0)) w t) rfl (by have ee_ : zk_Cr zk_mt zk_ex Ls xs 49 [.int (v 75 14), .int (nI a)] (zH (zb v 68 (upd (upd (v 68) 0 0) 11 0)) w t) (some (.int (zr_mhasBit (v 75 14) (nI a))), zH (zb v 68 (upd (upd (v 68) 0 0) 11 0)) w t) := zs_mhasBit (v := (zb v 68 (upd (upd (v 68) 0 0) 11 0))) (w := w) (v 75 14) (nI a); rw [show (zr_mhasBit (v 75 14) (nI a)) = 1 from hlo] at ee_; exact ee_) ?_
  show zk_T zk_mt zk_ex Ls xs zm_174 (37, [(0, .ref 69), (1, .int (nI a)), (2, .int (nI e))], [.int 1]) (zH (zb v 68 (upd (upd (v 68) 0 0) 11 0)) w t) _
  refine zk_T.br (f1 := (40, [(0, .ref 69), (1, .int (nI a)), (2, .int (nI e))], [])) (f2 := (48, [(0, .ref 69), (1, .int (nI a)), (2, .int (nI e))], [])) rfl (fun c3 => absurd (of_decide_eq_true c3) (by decide)) (fun c3 => ?_)
  refine zk_T.adv 2 (f' := (50, [(0, .ref 69), (1, .int (nI a)), (2, .int (nI e))], [.int 5, .ref 69])) (h' := zH (zb v 68 (upd (upd (v 68) 0 0) 11 0)) w t) rfl ?_
  refine zk_T.cl (v := some (.int (-1))) (h' := zH (zb v 68 (upd (upd (v 68) 0 0) 11 5)) w t) rfl (zs_mno (v := (zb v 68 (upd (upd (v 68) 0 0) 11 0))) (w := w) 5) ?_
  show zk_T zk_mt zk_ex Ls xs zm_174 (53, [(0, .ref 69), (1, .int (nI a)), (2, .int (nI e))], [.int (-1)]) (zH (zb v 68 (upd (upd (v 68) 0 0) 11 5)) w t) _
  exact zk_T.rt rfl rfl (by rfl)
/-- BasketKeepModel.put -/
theorem zM_put_5b (a e : Nat) (ha : a < 4) (he : e < 5) (hg : zr_misX (v 68 14) (v 71 3) (nI a) = 1) (hg2 : zr_misX (v 68 14) (v 71 2) (nI e) = 1) (hlo : zr_mhasBit (v 75 14) (nI a) = 0) (Gn : Nat) (hG : v 71 3 = nI Gn) (h4 : Gn ≤ 4) (b : Nat) (hb : b < 4) (hgi : zr_mgoodIn Gn (v 75) (nI e) = nI b) : zk_Cr zk_mt zk_ex Ls xs 174 [.ref 69, .int (nI a), .int (nI e)] (zH v w t) (some (.int (-1)), zH (zb v 68 (upd (upd (v 68) 0 0) 11 5)) w t) := by
  refine zk_Cr.of (K := zm_174) rfl rfl rfl ?_
  show zk_T zk_mt zk_ex Ls xs zm_174 (0, [(0, .ref 69), (1, .int (nI a)), (2, .int (nI e))], []) (zH v w t) _
  refine zk_T.adv 1 (f' := (1, [(0, .ref 69), (1, .int (nI a)), (2, .int (nI e))], [.ref 69])) (h' := zH v w t) rfl ?_
  refine zk_T.cl (v := none) (h' := zH (zb v 68 (upd (upd (v 68) 0 0) 11 0)) w t) rfl (zs_manew (v := v) (w := w)) ?_
  show zk_T zk_mt zk_ex Ls xs zm_174 (4, [(0, .ref 69), (1, .int (nI a)), (2, .int (nI e))], []) (zH (zb v 68 (upd (upd (v 68) 0 0) 11 0)) w t) _
  refine zk_T.adv 2 (f' := (6, [(0, .ref 69), (1, .int (nI a)), (2, .int (nI e))], [.int (nI a), .ref 69])) (h' := zH (zb v 68 (upd (upd (v 68) 0 0) 11 0)) w t) rfl ?_
  refine zk_T.cl (v := some (.int 1)) (h' := zH (zb v 68 (upd (upd (v 68) 0 0) 11 0)) w t) rfl (by have ee_ : zk_Cr zk_mt zk_ex Ls xs 117 [.ref 69, .int (nI a)] (zH (zb v 68 (upd (upd (v 68) 0 0) 11 0)) w t) (some (.int (zr_misX (v 68 14) (v 71 3) (nI a))), zH (zb v 68 (upd (upd (v 68) 0 0) 11 0)) w t) := zs_misGood (v := (zb v 68 (upd (upd (v 68) 0 0) 11 0))) (w := w) (nI a); rw [show (zr_misX (v 68 14) (v 71 3) (nI a)) = 1 from hg] at ee_; exact ee_) ?_
  show zk_T zk_mt zk_ex Ls xs zm_174 (9, [(0, .ref 69), (1, .int (nI a)), (2, .int (nI e))], [.int 1]) (zH (zb v 68 (upd (upd (v 68) 0 0) 11 0)) w t) _
  refine zk_T.br (f1 := (20, [(0, .ref 69), (1, .int (nI a)), (2, .int (nI e))], [])) (f2 := (12, [(0, .ref 69), (1, .int (nI a)), (2, .int (nI e))], [])) rfl (fun c1 => absurd (of_decide_eq_true c1) (by decide)) (fun c1 => ?_)
  refine zk_T.adv 2 (f' := (14, [(0, .ref 69), (1, .int (nI a)), (2, .int (nI e))], [.int (nI e), .ref 69])) (h' := zH (zb v 68 (upd (upd (v 68) 0 0) 11 0)) w t) rfl ?_
  refine zk_T.cl (v := some (.int 1)) (h' := zH (zb v 68 (upd (upd (v 68) 0 0) 11 0)) w t) rfl (by have ee_ : zk_Cr zk_mt zk_ex Ls xs 118 [.ref 69, .int (nI e)] (zH (zb v 68 (upd (upd (v 68) 0 0) 11 0)) w t) (some (.int (zr_misX (v 68 14) (v 71 2) (nI e))), zH (zb v 68 (upd (upd (v 68) 0 0) 11 0)) w t) := zs_misMaker (v := (zb v 68 (upd (upd (v 68) 0 0) 11 0))) (w := w) (nI e); rw [show (zr_misX (v 68 14) (v 71 2) (nI e)) = 1 from hg2] at ee_; exact ee_) ?_
  show zk_T zk_mt zk_ex Ls xs zm_174 (17, [(0, .ref 69), (1, .int (nI a)), (2, .int (nI e))], [.int 1]) (zH (zb v 68 (upd (upd (v 68) 0 0) 11 0)) w t) _
  refine zk_T.br (f1 := (20, [(0, .ref 69), (1, .int (nI a)), (2, .int (nI e))], [])) (f2 := (26, [(0, .ref 69), (1, .int (nI a)), (2, .int (nI e))], [])) rfl (fun c2 => absurd (of_decide_eq_true c2) (by decide)) (fun c2 => ?_)
  refine zk_T.adv 3 (f' := (32, [(0, .ref 69), (1, .int (nI a)), (2, .int (nI e))], [.int 14, .ref 76])) (h' := zH (zb v 68 (upd (upd (v 68) 0 0) 11 0)) w t) rfl ?_
  refine zk_T.ob (f' := (33, [(0, .ref 69), (1, .int (nI a)), (2, .int (nI e))], [.int (v 75 (14 : Int32).toNatClampNeg)])) (h' := zH (zb v 68 (upd (upd (v 68) 0 0) 11 0)) w t) rfl rfl ?_
  show zk_T zk_mt zk_ex Ls xs zm_174 (33, [(0, .ref 69), (1, .int (nI a)), (2, .int (nI e))], [.int (v 75 14)]) (zH (zb v 68 (upd (upd (v 68) 0 0) 11 0)) w t) _
  refine zk_T.adv 1 (f' := (34, [(0, .ref 69), (1, .int (nI a)), (2, .int (nI e))], [.int (nI a), .int (v 75 14)])) (h' := zH (zb v 68 (upd (upd (v 68) 0 0) 11 0)) w t) rfl ?_
  refine zk_T.cl (v := some (.int 0)) (h' := zH (zb v 68 (upd (upd (v 68) 0 0) 11 0)) w t) rfl (by have ee_ : zk_Cr zk_mt zk_ex Ls xs 49 [.int (v 75 14), .int (nI a)] (zH (zb v 68 (upd (upd (v 68) 0 0) 11 0)) w t) (some (.int (zr_mhasBit (v 75 14) (nI a))), zH (zb v 68 (upd (upd (v 68) 0 0) 11 0)) w t) := zs_mhasBit (v := (zb v 68 (upd (upd (v 68) 0 0) 11 0))) (w := w) (v 75 14) (nI a); rw [show (zr_mhasBit (v 75 14) (nI a)) = 0 from hlo] at ee_; exact ee_) ?_
  show zk_T zk_mt zk_ex Ls xs zm_174 (37, [(0, .ref 69), (1, .int (nI a)), (2, .int (nI e))], [.int 0]) (zH (zb v 68 (upd (upd (v 68) 0 0) 11 0)) w t) _
  refine zk_T.br (f1 := (40, [(0, .ref 69), (1, .int (nI a)), (2, .int (nI e))], [])) (f2 := (48, [(0, .ref 69), (1, .int (nI a)), (2, .int (nI e))], [])) rfl (fun c3 => ?_) (fun c3 => absurd (by decide) (of_decide_eq_false c3))
  refine zk_T.adv 2 (f' := (42, [(0, .ref 69), (1, .int (nI a)), (2, .int (nI e))], [.int (nI e), .ref 69])) (h' := zH (zb v 68 (upd (upd (v 68) 0 0) 11 0)) w t) rfl ?_
  refine zk_T.cl (v := some (.int (nI b))) (h' := zH (zb v 68 (upd (upd (v 68) 0 0) 11 0)) w t) rfl (by have ee_ : zk_Cr zk_mt zk_ex Ls xs 48 [.ref 69, .int (nI e)] (zH (zb v 68 (upd (upd (v 68) 0 0) 11 0)) w t) (some (.int (zr_mgoodIn Gn (v 75) (nI e))), zH (zb v 68 (upd (upd (v 68) 0 0) 11 0)) w t) := zs_mgoodIn (v := (zb v 68 (upd (upd (v 68) 0 0) 11 0))) (w := w) Gn hG h4 (nI e); rw [show (zr_mgoodIn Gn (v 75) (nI e)) = (nI b) from hgi] at ee_; exact ee_) ?_
  show zk_T zk_mt zk_ex Ls xs zm_174 (45, [(0, .ref 69), (1, .int (nI a)), (2, .int (nI e))], [.int (nI b)]) (zH (zb v 68 (upd (upd (v 68) 0 0) 11 0)) w t) _
  refine zk_T.br (f1 := (54, [(0, .ref 69), (1, .int (nI a)), (2, .int (nI e))], [])) (f2 := (48, [(0, .ref 69), (1, .int (nI a)), (2, .int (nI e))], [])) rfl (fun c4 => absurd (of_decide_eq_true c4) (nI_pos (by omega))) (fun c4 => ?_)
  refine zk_T.adv 2 (f' := (50, [(0, .ref 69), (1, .int (nI a)), (2, .int (nI e))], [.int 5, .ref 69])) (h' := zH (zb v 68 (upd (upd (v 68) 0 0) 11 0)) w t) rfl ?_
  refine zk_T.cl (v := some (.int (-1))) (h' := zH (zb v 68 (upd (upd (v 68) 0 0) 11 5)) w t) rfl (zs_mno (v := (zb v 68 (upd (upd (v 68) 0 0) 11 0))) (w := w) 5) ?_
  show zk_T zk_mt zk_ex Ls xs zm_174 (53, [(0, .ref 69), (1, .int (nI a)), (2, .int (nI e))], [.int (-1)]) (zH (zb v 68 (upd (upd (v 68) 0 0) 11 5)) w t) _
  exact zk_T.rt rfl rfl (by rfl)
/-- BasketKeepModel.put -/
theorem zM_put_f (a e : Nat) (ha : a < 4) (he : e < 5) (hg : zr_misX (v 68 14) (v 71 3) (nI a) = 1) (hg2 : zr_misX (v 68 14) (v 71 2) (nI e) = 1) (hlo : zr_mhasBit (v 75 14) (nI a) = 0) (Gn : Nat) (hG : v 71 3 = nI Gn) (h4 : Gn ≤ 4) (hgi : zr_mgoodIn Gn (v 75) (nI e) = -2) (k : Nat) (hk : v 68 23 = nI k) (hk16 : k < 16) : zk_Cr zk_mt zk_ex Ls xs 174 [.ref 69, .int (nI a), .int (nI e)] (zH v w t) (some (.int (zr_mgood2 (v 75 (10 + a)))), zH (zb (zb (zb v 68 (upd (upd (upd (v 68) 0 0) 11 0) 23 (nI (k + 1)))) 75 (upd (v 75) (10 + a) (nI (e + 1)))) 77 (zr_cpSu (v 75) (v 77) (16 * k))) w t) := by
  refine zk_Cr.of (K := zm_174) rfl rfl rfl ?_
  show zk_T zk_mt zk_ex Ls xs zm_174 (0, [(0, .ref 69), (1, .int (nI a)), (2, .int (nI e))], []) (zH v w t) _
  refine zk_T.adv 1 (f' := (1, [(0, .ref 69), (1, .int (nI a)), (2, .int (nI e))], [.ref 69])) (h' := zH v w t) rfl ?_
  refine zk_T.cl (v := none) (h' := zH (zb v 68 (upd (upd (v 68) 0 0) 11 0)) w t) rfl (zs_manew (v := v) (w := w)) ?_
  show zk_T zk_mt zk_ex Ls xs zm_174 (4, [(0, .ref 69), (1, .int (nI a)), (2, .int (nI e))], []) (zH (zb v 68 (upd (upd (v 68) 0 0) 11 0)) w t) _
  refine zk_T.adv 2 (f' := (6, [(0, .ref 69), (1, .int (nI a)), (2, .int (nI e))], [.int (nI a), .ref 69])) (h' := zH (zb v 68 (upd (upd (v 68) 0 0) 11 0)) w t) rfl ?_
  refine zk_T.cl (v := some (.int 1)) (h' := zH (zb v 68 (upd (upd (v 68) 0 0) 11 0)) w t) rfl (by have ee_ : zk_Cr zk_mt zk_ex Ls xs 117 [.ref 69, .int (nI a)] (zH (zb v 68 (upd (upd (v 68) 0 0) 11 0)) w t) (some (.int (zr_misX (v 68 14) (v 71 3) (nI a))), zH (zb v 68 (upd (upd (v 68) 0 0) 11 0)) w t) := zs_misGood (v := (zb v 68 (upd (upd (v 68) 0 0) 11 0))) (w := w) (nI a); rw [show (zr_misX (v 68 14) (v 71 3) (nI a)) = 1 from hg] at ee_; exact ee_) ?_
  show zk_T zk_mt zk_ex Ls xs zm_174 (9, [(0, .ref 69), (1, .int (nI a)), (2, .int (nI e))], [.int 1]) (zH (zb v 68 (upd (upd (v 68) 0 0) 11 0)) w t) _
  refine zk_T.br (f1 := (20, [(0, .ref 69), (1, .int (nI a)), (2, .int (nI e))], [])) (f2 := (12, [(0, .ref 69), (1, .int (nI a)), (2, .int (nI e))], [])) rfl (fun c1 => absurd (of_decide_eq_true c1) (by decide)) (fun c1 => ?_)
  refine zk_T.adv 2 (f' := (14, [(0, .ref 69), (1, .int (nI a)), (2, .int (nI e))], [.int (nI e), .ref 69])) (h' := zH (zb v 68 (upd (upd (v 68) 0 0) 11 0)) w t) rfl ?_
  refine zk_T.cl (v := some (.int 1)) (h' := zH (zb v 68 (upd (upd (v 68) 0 0) 11 0)) w t) rfl (by have ee_ : zk_Cr zk_mt zk_ex Ls xs 118 [.ref 69, .int (nI e)] (zH (zb v 68 (upd (upd (v 68) 0 0) 11 0)) w t) (some (.int (zr_misX (v 68 14) (v 71 2) (nI e))), zH (zb v 68 (upd (upd (v 68) 0 0) 11 0)) w t) := zs_misMaker (v := (zb v 68 (upd (upd (v 68) 0 0) 11 0))) (w := w) (nI e); rw [show (zr_misX (v 68 14) (v 71 2) (nI e)) = 1 from hg2] at ee_; exact ee_) ?_
  show zk_T zk_mt zk_ex Ls xs zm_174 (17, [(0, .ref 69), (1, .int (nI a)), (2, .int (nI e))], [.int 1]) (zH (zb v 68 (upd (upd (v 68) 0 0) 11 0)) w t) _
  refine zk_T.br (f1 := (20, [(0, .ref 69), (1, .int (nI a)), (2, .int (nI e))], [])) (f2 := (26, [(0, .ref 69), (1, .int (nI a)), (2, .int (nI e))], [])) rfl (fun c2 => absurd (of_decide_eq_true c2) (by decide)) (fun c2 => ?_)
  refine zk_T.adv 3 (f' := (32, [(0, .ref 69), (1, .int (nI a)), (2, .int (nI e))], [.int 14, .ref 76])) (h' := zH (zb v 68 (upd (upd (v 68) 0 0) 11 0)) w t) rfl ?_
  refine zk_T.ob (f' := (33, [(0, .ref 69), (1, .int (nI a)), (2, .int (nI e))], [.int (v 75 (14 : Int32).toNatClampNeg)])) (h' := zH (zb v 68 (upd (upd (v 68) 0 0) 11 0)) w t) rfl rfl ?_
  show zk_T zk_mt zk_ex Ls xs zm_174 (33, [(0, .ref 69), (1, .int (nI a)), (2, .int (nI e))], [.int (v 75 14)]) (zH (zb v 68 (upd (upd (v 68) 0 0) 11 0)) w t) _
  refine zk_T.adv 1 (f' := (34, [(0, .ref 69), (1, .int (nI a)), (2, .int (nI e))], [.int (nI a), .int (v 75 14)])) (h' := zH (zb v 68 (upd (upd (v 68) 0 0) 11 0)) w t) rfl ?_
  refine zk_T.cl (v := some (.int 0)) (h' := zH (zb v 68 (upd (upd (v 68) 0 0) 11 0)) w t) rfl (by have ee_ : zk_Cr zk_mt zk_ex Ls xs 49 [.int (v 75 14), .int (nI a)] (zH (zb v 68 (upd (upd (v 68) 0 0) 11 0)) w t) (some (.int (zr_mhasBit (v 75 14) (nI a))), zH (zb v 68 (upd (upd (v 68) 0 0) 11 0)) w t) := zs_mhasBit (v := (zb v 68 (upd (upd (v 68) 0 0) 11 0))) (w := w) (v 75 14) (nI a); rw [show (zr_mhasBit (v 75 14) (nI a)) = 0 from hlo] at ee_; exact ee_) ?_
  show zk_T zk_mt zk_ex Ls xs zm_174 (37, [(0, .ref 69), (1, .int (nI a)), (2, .int (nI e))], [.int 0]) (zH (zb v 68 (upd (upd (v 68) 0 0) 11 0)) w t) _
  refine zk_T.br (f1 := (40, [(0, .ref 69), (1, .int (nI a)), (2, .int (nI e))], [])) (f2 := (48, [(0, .ref 69), (1, .int (nI a)), (2, .int (nI e))], [])) rfl (fun c3 => ?_) (fun c3 => absurd (by decide) (of_decide_eq_false c3))
  refine zk_T.adv 2 (f' := (42, [(0, .ref 69), (1, .int (nI a)), (2, .int (nI e))], [.int (nI e), .ref 69])) (h' := zH (zb v 68 (upd (upd (v 68) 0 0) 11 0)) w t) rfl ?_
  refine zk_T.cl (v := some (.int (-2))) (h' := zH (zb v 68 (upd (upd (v 68) 0 0) 11 0)) w t) rfl (by have ee_ : zk_Cr zk_mt zk_ex Ls xs 48 [.ref 69, .int (nI e)] (zH (zb v 68 (upd (upd (v 68) 0 0) 11 0)) w t) (some (.int (zr_mgoodIn Gn (v 75) (nI e))), zH (zb v 68 (upd (upd (v 68) 0 0) 11 0)) w t) := zs_mgoodIn (v := (zb v 68 (upd (upd (v 68) 0 0) 11 0))) (w := w) Gn hG h4 (nI e); rw [show (zr_mgoodIn Gn (v 75) (nI e)) = (-2) from hgi] at ee_; exact ee_) ?_
  show zk_T zk_mt zk_ex Ls xs zm_174 (45, [(0, .ref 69), (1, .int (nI a)), (2, .int (nI e))], [.int (-2)]) (zH (zb v 68 (upd (upd (v 68) 0 0) 11 0)) w t) _
  refine zk_T.br (f1 := (54, [(0, .ref 69), (1, .int (nI a)), (2, .int (nI e))], [])) (f2 := (48, [(0, .ref 69), (1, .int (nI a)), (2, .int (nI e))], [])) rfl (fun c4 => ?_) (fun c4 => absurd (by decide) (of_decide_eq_false c4))
  refine zk_T.adv 1 (f' := (55, [(0, .ref 69), (1, .int (nI a)), (2, .int (nI e))], [.ref 69])) (h' := zH (zb v 68 (upd (upd (v 68) 0 0) 11 0)) w t) rfl ?_
  refine zk_T.cl (v := none) (h' := zH (zb (zb v 68 (upd (upd (upd (v 68) 0 0) 11 0) 23 (nI (k + 1)))) 77 (zr_cpSu (v 75) (v 77) (16 * k))) w t) rfl (zs_mnote_f (v := (zb v 68 (upd (upd (v 68) 0 0) 11 0))) (w := w) k hk hk16) ?_
  show zk_T zk_mt zk_ex Ls xs zm_174 (58, [(0, .ref 69), (1, .int (nI a)), (2, .int (nI e))], []) (zH (zb (zb v 68 (upd (upd (upd (v 68) 0 0) 11 0) 23 (nI (k + 1)))) 77 (zr_cpSu (v 75) (v 77) (16 * k))) w t) _
  refine zk_T.adv 5 (f' := (66, [(0, .ref 69), (1, .int (nI a)), (2, .int (nI e))], [.int (10 + (nI a)), .ref 76])) (h' := zH (zb (zb v 68 (upd (upd (upd (v 68) 0 0) 11 0) 23 (nI (k + 1)))) 77 (zr_cpSu (v 75) (v 77) (16 * k))) w t) rfl ?_
  rw [show 10 + (nI a) = nI (10 + a) from nI_add 10 a]
  refine zk_T.ob (f' := (67, [(0, .ref 69), (1, .int (nI a)), (2, .int (nI e))], [.int (v 75 (nI (10 + a)).toNatClampNeg)])) (h' := zH (zb (zb v 68 (upd (upd (upd (v 68) 0 0) 11 0) 23 (nI (k + 1)))) 77 (zr_cpSu (v 75) (v 77) (16 * k))) w t) rfl (by first | exact zk_inN (by omega) (by decide) | decide) ?_
  rw [nI_clamp (show (10 + a) < 2 ^ 31 by omega)]
  refine zk_T.adv 6 (f' := (76, [(0, .ref 69), (1, .int (nI a)), (2, .int (nI e)), (3, .int (v 75 (10 + a)))], [.int (10 + (nI a)), .ref 76])) (h' := zH (zb (zb v 68 (upd (upd (upd (v 68) 0 0) 11 0) 23 (nI (k + 1)))) 77 (zr_cpSu (v 75) (v 77) (16 * k))) w t) rfl ?_
  rw [show 10 + (nI a) = nI (10 + a) from nI_add 10 a]
  refine zk_T.adv 3 (f' := (79, [(0, .ref 69), (1, .int (nI a)), (2, .int (nI e)), (3, .int (v 75 (10 + a)))], [.int ((nI e) + 1), .int (nI (10 + a)), .ref 76])) (h' := zH (zb (zb v 68 (upd (upd (upd (v 68) 0 0) 11 0) 23 (nI (k + 1)))) 77 (zr_cpSu (v 75) (v 77) (16 * k))) w t) rfl ?_
  rw [show (nI e) + 1 = nI (e + 1) from nI_add e 1]
  refine zk_T.ob (f' := (80, [(0, .ref 69), (1, .int (nI a)), (2, .int (nI e)), (3, .int (v 75 (10 + a)))], [])) (h' := zH (zb (zb (zb v 68 (upd (upd (upd (v 68) 0 0) 11 0) 23 (nI (k + 1)))) 75 (upd (v 75) (nI (10 + a)).toNatClampNeg (nI (e + 1)))) 77 (zr_cpSu (v 75) (v 77) (16 * k))) w t) rfl (by first | exact zk_inN (by omega) (by decide) | decide) ?_
  rw [nI_clamp (show (10 + a) < 2 ^ 31 by omega)]
  refine zk_T.adv 1 (f' := (81, [(0, .ref 69), (1, .int (nI a)), (2, .int (nI e)), (3, .int (v 75 (10 + a)))], [.int (v 75 (10 + a))])) (h' := zH (zb (zb (zb v 68 (upd (upd (upd (v 68) 0 0) 11 0) 23 (nI (k + 1)))) 75 (upd (v 75) (10 + a) (nI (e + 1)))) 77 (zr_cpSu (v 75) (v 77) (16 * k))) w t) rfl ?_
  refine zk_T.br (f1 := (84, [(0, .ref 69), (1, .int (nI a)), (2, .int (nI e)), (3, .int (v 75 (10 + a)))], [])) (f2 := (89, [(0, .ref 69), (1, .int (nI a)), (2, .int (nI e)), (3, .int (v 75 (10 + a)))], [])) rfl (fun c5 => ?_) (fun c5 => ?_)
  · have c5 : (v 75 (10 + a)) = 0 := of_decide_eq_true c5
    refine zk_T.adv 2 (f' := (92, [(0, .ref 69), (1, .int (nI a)), (2, .int (nI e)), (3, .int (v 75 (10 + a)))], [.int (-2)])) (h' := zH (zb (zb (zb v 68 (upd (upd (upd (v 68) 0 0) 11 0) 23 (nI (k + 1)))) 75 (upd (v 75) (10 + a) (nI (e + 1)))) 77 (zr_cpSu (v 75) (v 77) (16 * k))) w t) rfl ?_
    exact zk_T.rt rfl rfl (by simp only [zr_mgood2, if_pos c5])
  · have c5 : ¬ ((v 75 (10 + a)) = 0) := of_decide_eq_false c5
    refine zk_T.adv 3 (f' := (92, [(0, .ref 69), (1, .int (nI a)), (2, .int (nI e)), (3, .int (v 75 (10 + a)))], [.int ((v 75 (10 + a)) - 1)])) (h' := zH (zb (zb (zb v 68 (upd (upd (upd (v 68) 0 0) 11 0) 23 (nI (k + 1)))) 75 (upd (v 75) (10 + a) (nI (e + 1)))) 77 (zr_cpSu (v 75) (v 77) (16 * k))) w t) rfl ?_
    exact zk_T.rt rfl rfl (by simp only [zr_mgood2, if_neg c5])
set_option maxRecDepth 20000 in
/-- BasketKeepModel.put -/
theorem zM_put_g (a e : Nat) (ha : a < 4) (he : e < 5) (hg : zr_misX (v 68 14) (v 71 3) (nI a) = 1) (hg2 : zr_misX (v 68 14) (v 71 2) (nI e) = 1) (hlo : zr_mhasBit (v 75 14) (nI a) = 0) (Gn : Nat) (hG : v 71 3 = nI Gn) (h4 : Gn ≤ 4) (hgi : zr_mgoodIn Gn (v 75) (nI e) = -2) (hk : v 68 23 = 16) : zk_Cr zk_mt zk_ex Ls xs 174 [.ref 69, .int (nI a), .int (nI e)] (zH v w t) (some (.int (zr_mgood2 (v 75 (10 + a)))), zH (zb (zb (zb v 68 (upd (upd (upd (v 68) 0 0) 11 0) 23 16)) 75 (upd (v 75) (10 + a) (nI (e + 1)))) 77 (zr_cpSu (v 75) (zf zl_mnoteG 240 0 (v 77)) 240)) w t) := by
  refine zk_Cr.of (K := zm_174) rfl rfl rfl ?_
  show zk_T zk_mt zk_ex Ls xs zm_174 (0, [(0, .ref 69), (1, .int (nI a)), (2, .int (nI e))], []) (zH v w t) _
  refine zk_T.adv 1 (f' := (1, [(0, .ref 69), (1, .int (nI a)), (2, .int (nI e))], [.ref 69])) (h' := zH v w t) rfl ?_
  refine zk_T.cl (v := none) (h' := zH (zb v 68 (upd (upd (v 68) 0 0) 11 0)) w t) rfl (zs_manew (v := v) (w := w)) ?_
  show zk_T zk_mt zk_ex Ls xs zm_174 (4, [(0, .ref 69), (1, .int (nI a)), (2, .int (nI e))], []) (zH (zb v 68 (upd (upd (v 68) 0 0) 11 0)) w t) _
  refine zk_T.adv 2 (f' := (6, [(0, .ref 69), (1, .int (nI a)), (2, .int (nI e))], [.int (nI a), .ref 69])) (h' := zH (zb v 68 (upd (upd (v 68) 0 0) 11 0)) w t) rfl ?_
  refine zk_T.cl (v := some (.int 1)) (h' := zH (zb v 68 (upd (upd (v 68) 0 0) 11 0)) w t) rfl (by have ee_ : zk_Cr zk_mt zk_ex Ls xs 117 [.ref 69, .int (nI a)] (zH (zb v 68 (upd (upd (v 68) 0 0) 11 0)) w t) (some (.int (zr_misX (v 68 14) (v 71 3) (nI a))), zH (zb v 68 (upd (upd (v 68) 0 0) 11 0)) w t) := zs_misGood (v := (zb v 68 (upd (upd (v 68) 0 0) 11 0))) (w := w) (nI a); rw [show (zr_misX (v 68 14) (v 71 3) (nI a)) = 1 from hg] at ee_; exact ee_) ?_
  show zk_T zk_mt zk_ex Ls xs zm_174 (9, [(0, .ref 69), (1, .int (nI a)), (2, .int (nI e))], [.int 1]) (zH (zb v 68 (upd (upd (v 68) 0 0) 11 0)) w t) _
  refine zk_T.br (f1 := (20, [(0, .ref 69), (1, .int (nI a)), (2, .int (nI e))], [])) (f2 := (12, [(0, .ref 69), (1, .int (nI a)), (2, .int (nI e))], [])) rfl (fun c1 => absurd (of_decide_eq_true c1) (by decide)) (fun c1 => ?_)
  refine zk_T.adv 2 (f' := (14, [(0, .ref 69), (1, .int (nI a)), (2, .int (nI e))], [.int (nI e), .ref 69])) (h' := zH (zb v 68 (upd (upd (v 68) 0 0) 11 0)) w t) rfl ?_
  refine zk_T.cl (v := some (.int 1)) (h' := zH (zb v 68 (upd (upd (v 68) 0 0) 11 0)) w t) rfl (by have ee_ : zk_Cr zk_mt zk_ex Ls xs 118 [.ref 69, .int (nI e)] (zH (zb v 68 (upd (upd (v 68) 0 0) 11 0)) w t) (some (.int (zr_misX (v 68 14) (v 71 2) (nI e))), zH (zb v 68 (upd (upd (v 68) 0 0) 11 0)) w t) := zs_misMaker (v := (zb v 68 (upd (upd (v 68) 0 0) 11 0))) (w := w) (nI e); rw [show (zr_misX (v 68 14) (v 71 2) (nI e)) = 1 from hg2] at ee_; exact ee_) ?_
  show zk_T zk_mt zk_ex Ls xs zm_174 (17, [(0, .ref 69), (1, .int (nI a)), (2, .int (nI e))], [.int 1]) (zH (zb v 68 (upd (upd (v 68) 0 0) 11 0)) w t) _
  refine zk_T.br (f1 := (20, [(0, .ref 69), (1, .int (nI a)), (2, .int (nI e))], [])) (f2 := (26, [(0, .ref 69), (1, .int (nI a)), (2, .int (nI e))], [])) rfl (fun c2 => absurd (of_decide_eq_true c2) (by decide)) (fun c2 => ?_)
  refine zk_T.adv 3 (f' := (32, [(0, .ref 69), (1, .int (nI a)), (2, .int (nI e))], [.int 14, .ref 76])) (h' := zH (zb v 68 (upd (upd (v 68) 0 0) 11 0)) w t) rfl ?_
  refine zk_T.ob (f' := (33, [(0, .ref 69), (1, .int (nI a)), (2, .int (nI e))], [.int (v 75 (14 : Int32).toNatClampNeg)])) (h' := zH (zb v 68 (upd (upd (v 68) 0 0) 11 0)) w t) rfl rfl ?_
  show zk_T zk_mt zk_ex Ls xs zm_174 (33, [(0, .ref 69), (1, .int (nI a)), (2, .int (nI e))], [.int (v 75 14)]) (zH (zb v 68 (upd (upd (v 68) 0 0) 11 0)) w t) _
  refine zk_T.adv 1 (f' := (34, [(0, .ref 69), (1, .int (nI a)), (2, .int (nI e))], [.int (nI a), .int (v 75 14)])) (h' := zH (zb v 68 (upd (upd (v 68) 0 0) 11 0)) w t) rfl ?_
  refine zk_T.cl (v := some (.int 0)) (h' := zH (zb v 68 (upd (upd (v 68) 0 0) 11 0)) w t) rfl (by have ee_ : zk_Cr zk_mt zk_ex Ls xs 49 [.int (v 75 14), .int (nI a)] (zH (zb v 68 (upd (upd (v 68) 0 0) 11 0)) w t) (some (.int (zr_mhasBit (v 75 14) (nI a))), zH (zb v 68 (upd (upd (v 68) 0 0) 11 0)) w t) := zs_mhasBit (v := (zb v 68 (upd (upd (v 68) 0 0) 11 0))) (w := w) (v 75 14) (nI a); rw [show (zr_mhasBit (v 75 14) (nI a)) = 0 from hlo] at ee_; exact ee_) ?_
  show zk_T zk_mt zk_ex Ls xs zm_174 (37, [(0, .ref 69), (1, .int (nI a)), (2, .int (nI e))], [.int 0]) (zH (zb v 68 (upd (upd (v 68) 0 0) 11 0)) w t) _
  refine zk_T.br (f1 := (40, [(0, .ref 69), (1, .int (nI a)), (2, .int (nI e))], [])) (f2 := (48, [(0, .ref 69), (1, .int (nI a)), (2, .int (nI e))], [])) rfl (fun c3 => ?_) (fun c3 => absurd (by decide) (of_decide_eq_false c3))
  refine zk_T.adv 2 (f' := (42, [(0, .ref 69), (1, .int (nI a)), (2, .int (nI e))], [.int (nI e), .ref 69])) (h' := zH (zb v 68 (upd (upd (v 68) 0 0) 11 0)) w t) rfl ?_
  refine zk_T.cl (v := some (.int (-2))) (h' := zH (zb v 68 (upd (upd (v 68) 0 0) 11 0)) w t) rfl (by have ee_ : zk_Cr zk_mt zk_ex Ls xs 48 [.ref 69, .int (nI e)] (zH (zb v 68 (upd (upd (v 68) 0 0) 11 0)) w t) (some (.int (zr_mgoodIn Gn (v 75) (nI e))), zH (zb v 68 (upd (upd (v 68) 0 0) 11 0)) w t) := zs_mgoodIn (v := (zb v 68 (upd (upd (v 68) 0 0) 11 0))) (w := w) Gn hG h4 (nI e); rw [show (zr_mgoodIn Gn (v 75) (nI e)) = (-2) from hgi] at ee_; exact ee_) ?_
  show zk_T zk_mt zk_ex Ls xs zm_174 (45, [(0, .ref 69), (1, .int (nI a)), (2, .int (nI e))], [.int (-2)]) (zH (zb v 68 (upd (upd (v 68) 0 0) 11 0)) w t) _
  refine zk_T.br (f1 := (54, [(0, .ref 69), (1, .int (nI a)), (2, .int (nI e))], [])) (f2 := (48, [(0, .ref 69), (1, .int (nI a)), (2, .int (nI e))], [])) rfl (fun c4 => ?_) (fun c4 => absurd (by decide) (of_decide_eq_false c4))
  refine zk_T.adv 1 (f' := (55, [(0, .ref 69), (1, .int (nI a)), (2, .int (nI e))], [.ref 69])) (h' := zH (zb v 68 (upd (upd (v 68) 0 0) 11 0)) w t) rfl ?_
  refine zk_T.cl (v := none) (h' := zH (zb (zb v 68 (upd (upd (upd (v 68) 0 0) 11 0) 23 16)) 77 (zr_cpSu (v 75) (zf zl_mnoteG 240 0 (v 77)) 240)) w t) rfl (zs_mnote_16 (v := (zb v 68 (upd (upd (v 68) 0 0) 11 0))) (w := w) hk) ?_
  show zk_T zk_mt zk_ex Ls xs zm_174 (58, [(0, .ref 69), (1, .int (nI a)), (2, .int (nI e))], []) (zH (zb (zb v 68 (upd (upd (upd (v 68) 0 0) 11 0) 23 16)) 77 (zr_cpSu (v 75) (zf zl_mnoteG 240 0 (v 77)) 240)) w t) _
  refine zk_T.adv 5 (f' := (66, [(0, .ref 69), (1, .int (nI a)), (2, .int (nI e))], [.int (10 + (nI a)), .ref 76])) (h' := zH (zb (zb v 68 (upd (upd (upd (v 68) 0 0) 11 0) 23 16)) 77 (zr_cpSu (v 75) (zf zl_mnoteG 240 0 (v 77)) 240)) w t) rfl ?_
  rw [show 10 + (nI a) = nI (10 + a) from nI_add 10 a]
  refine zk_T.ob (f' := (67, [(0, .ref 69), (1, .int (nI a)), (2, .int (nI e))], [.int (v 75 (nI (10 + a)).toNatClampNeg)])) (h' := zH (zb (zb v 68 (upd (upd (upd (v 68) 0 0) 11 0) 23 16)) 77 (zr_cpSu (v 75) (zf zl_mnoteG 240 0 (v 77)) 240)) w t) rfl (by first | exact zk_inN (by omega) (by decide) | decide) ?_
  rw [nI_clamp (show (10 + a) < 2 ^ 31 by omega)]
  refine zk_T.adv 6 (f' := (76, [(0, .ref 69), (1, .int (nI a)), (2, .int (nI e)), (3, .int (v 75 (10 + a)))], [.int (10 + (nI a)), .ref 76])) (h' := zH (zb (zb v 68 (upd (upd (upd (v 68) 0 0) 11 0) 23 16)) 77 (zr_cpSu (v 75) (zf zl_mnoteG 240 0 (v 77)) 240)) w t) rfl ?_
  rw [show 10 + (nI a) = nI (10 + a) from nI_add 10 a]
  refine zk_T.adv 3 (f' := (79, [(0, .ref 69), (1, .int (nI a)), (2, .int (nI e)), (3, .int (v 75 (10 + a)))], [.int ((nI e) + 1), .int (nI (10 + a)), .ref 76])) (h' := zH (zb (zb v 68 (upd (upd (upd (v 68) 0 0) 11 0) 23 16)) 77 (zr_cpSu (v 75) (zf zl_mnoteG 240 0 (v 77)) 240)) w t) rfl ?_
  rw [show (nI e) + 1 = nI (e + 1) from nI_add e 1]
  refine zk_T.ob (f' := (80, [(0, .ref 69), (1, .int (nI a)), (2, .int (nI e)), (3, .int (v 75 (10 + a)))], [])) (h' := zH (zb (zb (zb v 68 (upd (upd (upd (v 68) 0 0) 11 0) 23 16)) 75 (upd (v 75) (nI (10 + a)).toNatClampNeg (nI (e + 1)))) 77 (zr_cpSu (v 75) (zf zl_mnoteG 240 0 (v 77)) 240)) w t) rfl (by first | exact zk_inN (by omega) (by decide) | decide) ?_
  rw [nI_clamp (show (10 + a) < 2 ^ 31 by omega)]
  refine zk_T.adv 1 (f' := (81, [(0, .ref 69), (1, .int (nI a)), (2, .int (nI e)), (3, .int (v 75 (10 + a)))], [.int (v 75 (10 + a))])) (h' := zH (zb (zb (zb v 68 (upd (upd (upd (v 68) 0 0) 11 0) 23 16)) 75 (upd (v 75) (10 + a) (nI (e + 1)))) 77 (zr_cpSu (v 75) (zf zl_mnoteG 240 0 (v 77)) 240)) w t) rfl ?_
  refine zk_T.br (f1 := (84, [(0, .ref 69), (1, .int (nI a)), (2, .int (nI e)), (3, .int (v 75 (10 + a)))], [])) (f2 := (89, [(0, .ref 69), (1, .int (nI a)), (2, .int (nI e)), (3, .int (v 75 (10 + a)))], [])) rfl (fun c5 => ?_) (fun c5 => ?_)
  · have c5 : (v 75 (10 + a)) = 0 := of_decide_eq_true c5
    refine zk_T.adv 2 (f' := (92, [(0, .ref 69), (1, .int (nI a)), (2, .int (nI e)), (3, .int (v 75 (10 + a)))], [.int (-2)])) (h' := zH (zb (zb (zb v 68 (upd (upd (upd (v 68) 0 0) 11 0) 23 16)) 75 (upd (v 75) (10 + a) (nI (e + 1)))) 77 (zr_cpSu (v 75) (zf zl_mnoteG 240 0 (v 77)) 240)) w t) rfl ?_
    exact zk_T.rt rfl rfl (by simp only [zr_mgood2, if_pos c5])
  · have c5 : ¬ ((v 75 (10 + a)) = 0) := of_decide_eq_false c5
    refine zk_T.adv 3 (f' := (92, [(0, .ref 69), (1, .int (nI a)), (2, .int (nI e)), (3, .int (v 75 (10 + a)))], [.int ((v 75 (10 + a)) - 1)])) (h' := zH (zb (zb (zb v 68 (upd (upd (upd (v 68) 0 0) 11 0) 23 16)) 75 (upd (v 75) (10 + a) (nI (e + 1)))) 77 (zr_cpSu (v 75) (zf zl_mnoteG 240 0 (v 77)) 240)) w t) rfl ?_
    exact zk_T.rt rfl rfl (by simp only [zr_mgood2, if_neg c5])
/-- BasketKeepModel.take -/
theorem zM_take_t (x : Int32) (hg : zr_misX (v 68 14) (v 71 3) x = 0) : zk_Cr zk_mt zk_ex Ls xs 179 [.ref 69, .int x] (zH v w t) (some (.int (-1)), zH (zb v 68 (upd (upd (v 68) 0 0) 11 1)) w t) := by
  refine zk_Cr.of (K := zm_179) rfl rfl rfl ?_
  show zk_T zk_mt zk_ex Ls xs zm_179 (0, [(0, .ref 69), (1, .int x)], []) (zH v w t) _
  refine zk_T.adv 1 (f' := (1, [(0, .ref 69), (1, .int x)], [.ref 69])) (h' := zH v w t) rfl ?_
  refine zk_T.cl (v := none) (h' := zH (zb v 68 (upd (upd (v 68) 0 0) 11 0)) w t) rfl (zs_manew (v := v) (w := w)) ?_
  show zk_T zk_mt zk_ex Ls xs zm_179 (4, [(0, .ref 69), (1, .int x)], []) (zH (zb v 68 (upd (upd (v 68) 0 0) 11 0)) w t) _
  refine zk_T.adv 2 (f' := (6, [(0, .ref 69), (1, .int x)], [.int x, .ref 69])) (h' := zH (zb v 68 (upd (upd (v 68) 0 0) 11 0)) w t) rfl ?_
  refine zk_T.cl (v := some (.int 0)) (h' := zH (zb v 68 (upd (upd (v 68) 0 0) 11 0)) w t) rfl (by have ee_ : zk_Cr zk_mt zk_ex Ls xs 117 [.ref 69, .int x] (zH (zb v 68 (upd (upd (v 68) 0 0) 11 0)) w t) (some (.int (zr_misX (v 68 14) (v 71 3) x)), zH (zb v 68 (upd (upd (v 68) 0 0) 11 0)) w t) := zs_misGood (v := (zb v 68 (upd (upd (v 68) 0 0) 11 0))) (w := w) x; rw [show (zr_misX (v 68 14) (v 71 3) x) = 0 from hg] at ee_; exact ee_) ?_
  show zk_T zk_mt zk_ex Ls xs zm_179 (9, [(0, .ref 69), (1, .int x)], [.int 0]) (zH (zb v 68 (upd (upd (v 68) 0 0) 11 0)) w t) _
  refine zk_T.br (f1 := (12, [(0, .ref 69), (1, .int x)], [])) (f2 := (18, [(0, .ref 69), (1, .int x)], [])) rfl (fun c1 => ?_) (fun c1 => absurd (by decide) (of_decide_eq_false c1))
  refine zk_T.adv 2 (f' := (14, [(0, .ref 69), (1, .int x)], [.int 1, .ref 69])) (h' := zH (zb v 68 (upd (upd (v 68) 0 0) 11 0)) w t) rfl ?_
  refine zk_T.cl (v := some (.int (-1))) (h' := zH (zb v 68 (upd (upd (v 68) 0 0) 11 1)) w t) rfl (zs_mno (v := (zb v 68 (upd (upd (v 68) 0 0) 11 0))) (w := w) 1) ?_
  show zk_T zk_mt zk_ex Ls xs zm_179 (17, [(0, .ref 69), (1, .int x)], [.int (-1)]) (zH (zb v 68 (upd (upd (v 68) 0 0) 11 1)) w t) _
  exact zk_T.rt rfl rfl (by rfl)
/-- BasketKeepModel.take -/
theorem zM_take_5 (a : Nat) (ha : a < 4) (hg : zr_misX (v 68 14) (v 71 3) (nI a) = 1) (hB : v 75 (10 + a) = 0) : zk_Cr zk_mt zk_ex Ls xs 179 [.ref 69, .int (nI a)] (zH v w t) (some (.int (-1)), zH (zb v 68 (upd (upd (v 68) 0 0) 11 5)) w t) := by
  refine zk_Cr.of (K := zm_179) rfl rfl rfl ?_
  show zk_T zk_mt zk_ex Ls xs zm_179 (0, [(0, .ref 69), (1, .int (nI a))], []) (zH v w t) _
  refine zk_T.adv 1 (f' := (1, [(0, .ref 69), (1, .int (nI a))], [.ref 69])) (h' := zH v w t) rfl ?_
  refine zk_T.cl (v := none) (h' := zH (zb v 68 (upd (upd (v 68) 0 0) 11 0)) w t) rfl (zs_manew (v := v) (w := w)) ?_
  show zk_T zk_mt zk_ex Ls xs zm_179 (4, [(0, .ref 69), (1, .int (nI a))], []) (zH (zb v 68 (upd (upd (v 68) 0 0) 11 0)) w t) _
  refine zk_T.adv 2 (f' := (6, [(0, .ref 69), (1, .int (nI a))], [.int (nI a), .ref 69])) (h' := zH (zb v 68 (upd (upd (v 68) 0 0) 11 0)) w t) rfl ?_
  refine zk_T.cl (v := some (.int 1)) (h' := zH (zb v 68 (upd (upd (v 68) 0 0) 11 0)) w t) rfl (by have ee_ : zk_Cr zk_mt zk_ex Ls xs 117 [.ref 69, .int (nI a)] (zH (zb v 68 (upd (upd (v 68) 0 0) 11 0)) w t) (some (.int (zr_misX (v 68 14) (v 71 3) (nI a))), zH (zb v 68 (upd (upd (v 68) 0 0) 11 0)) w t) := zs_misGood (v := (zb v 68 (upd (upd (v 68) 0 0) 11 0))) (w := w) (nI a); rw [show (zr_misX (v 68 14) (v 71 3) (nI a)) = 1 from hg] at ee_; exact ee_) ?_
  show zk_T zk_mt zk_ex Ls xs zm_179 (9, [(0, .ref 69), (1, .int (nI a))], [.int 1]) (zH (zb v 68 (upd (upd (v 68) 0 0) 11 0)) w t) _
  refine zk_T.br (f1 := (12, [(0, .ref 69), (1, .int (nI a))], [])) (f2 := (18, [(0, .ref 69), (1, .int (nI a))], [])) rfl (fun c1 => absurd (of_decide_eq_true c1) (by decide)) (fun c1 => ?_)
  refine zk_T.adv 5 (f' := (26, [(0, .ref 69), (1, .int (nI a))], [.int (10 + (nI a)), .ref 76])) (h' := zH (zb v 68 (upd (upd (v 68) 0 0) 11 0)) w t) rfl ?_
  rw [show 10 + (nI a) = nI (10 + a) from nI_add 10 a]
  refine zk_T.ob (f' := (27, [(0, .ref 69), (1, .int (nI a))], [.int (v 75 (nI (10 + a)).toNatClampNeg)])) (h' := zH (zb v 68 (upd (upd (v 68) 0 0) 11 0)) w t) rfl (by first | exact zk_inN (by omega) (by decide) | decide) ?_
  rw [nI_clamp (show (10 + a) < 2 ^ 31 by omega)]
  rw [hB]
  refine zk_T.br (f1 := (30, [(0, .ref 69), (1, .int (nI a))], [])) (f2 := (36, [(0, .ref 69), (1, .int (nI a))], [])) rfl (fun c2 => ?_) (fun c2 => absurd (by decide) (of_decide_eq_false c2))
  refine zk_T.adv 2 (f' := (32, [(0, .ref 69), (1, .int (nI a))], [.int 5, .ref 69])) (h' := zH (zb v 68 (upd (upd (v 68) 0 0) 11 0)) w t) rfl ?_
  refine zk_T.cl (v := some (.int (-1))) (h' := zH (zb v 68 (upd (upd (v 68) 0 0) 11 5)) w t) rfl (zs_mno (v := (zb v 68 (upd (upd (v 68) 0 0) 11 0))) (w := w) 5) ?_
  show zk_T zk_mt zk_ex Ls xs zm_179 (35, [(0, .ref 69), (1, .int (nI a))], [.int (-1)]) (zH (zb v 68 (upd (upd (v 68) 0 0) 11 5)) w t) _
  exact zk_T.rt rfl rfl (by rfl)
/-- BasketKeepModel.take -/
theorem zM_take_f (a : Nat) (ha : a < 4) (hg : zr_misX (v 68 14) (v 71 3) (nI a) = 1) (e : Nat) (he : e < 5) (hI : v 75 (10 + a) = nI (e + 1)) (k : Nat) (hk : v 68 23 = nI k) (hk16 : k < 16) : zk_Cr zk_mt zk_ex Ls xs 179 [.ref 69, .int (nI a)] (zH v w t) (some (.int (nI e)), zH (zb (zb (zb v 68 (upd (upd (upd (v 68) 0 0) 11 0) 23 (nI (k + 1)))) 75 (upd (v 75) (10 + a) 0)) 77 (zr_cpSu (v 75) (v 77) (16 * k))) w t) := by
  refine zk_Cr.of (K := zm_179) rfl rfl rfl ?_
  show zk_T zk_mt zk_ex Ls xs zm_179 (0, [(0, .ref 69), (1, .int (nI a))], []) (zH v w t) _
  refine zk_T.adv 1 (f' := (1, [(0, .ref 69), (1, .int (nI a))], [.ref 69])) (h' := zH v w t) rfl ?_
  refine zk_T.cl (v := none) (h' := zH (zb v 68 (upd (upd (v 68) 0 0) 11 0)) w t) rfl (zs_manew (v := v) (w := w)) ?_
  show zk_T zk_mt zk_ex Ls xs zm_179 (4, [(0, .ref 69), (1, .int (nI a))], []) (zH (zb v 68 (upd (upd (v 68) 0 0) 11 0)) w t) _
  refine zk_T.adv 2 (f' := (6, [(0, .ref 69), (1, .int (nI a))], [.int (nI a), .ref 69])) (h' := zH (zb v 68 (upd (upd (v 68) 0 0) 11 0)) w t) rfl ?_
  refine zk_T.cl (v := some (.int 1)) (h' := zH (zb v 68 (upd (upd (v 68) 0 0) 11 0)) w t) rfl (by have ee_ : zk_Cr zk_mt zk_ex Ls xs 117 [.ref 69, .int (nI a)] (zH (zb v 68 (upd (upd (v 68) 0 0) 11 0)) w t) (some (.int (zr_misX (v 68 14) (v 71 3) (nI a))), zH (zb v 68 (upd (upd (v 68) 0 0) 11 0)) w t) := zs_misGood (v := (zb v 68 (upd (upd (v 68) 0 0) 11 0))) (w := w) (nI a); rw [show (zr_misX (v 68 14) (v 71 3) (nI a)) = 1 from hg] at ee_; exact ee_) ?_
  show zk_T zk_mt zk_ex Ls xs zm_179 (9, [(0, .ref 69), (1, .int (nI a))], [.int 1]) (zH (zb v 68 (upd (upd (v 68) 0 0) 11 0)) w t) _
  refine zk_T.br (f1 := (12, [(0, .ref 69), (1, .int (nI a))], [])) (f2 := (18, [(0, .ref 69), (1, .int (nI a))], [])) rfl (fun c1 => absurd (of_decide_eq_true c1) (by decide)) (fun c1 => ?_)
  refine zk_T.adv 5 (f' := (26, [(0, .ref 69), (1, .int (nI a))], [.int (10 + (nI a)), .ref 76])) (h' := zH (zb v 68 (upd (upd (v 68) 0 0) 11 0)) w t) rfl ?_
  rw [show 10 + (nI a) = nI (10 + a) from nI_add 10 a]
  refine zk_T.ob (f' := (27, [(0, .ref 69), (1, .int (nI a))], [.int (v 75 (nI (10 + a)).toNatClampNeg)])) (h' := zH (zb v 68 (upd (upd (v 68) 0 0) 11 0)) w t) rfl (by first | exact zk_inN (by omega) (by decide) | decide) ?_
  rw [nI_clamp (show (10 + a) < 2 ^ 31 by omega)]
  rw [hI]
  refine zk_T.br (f1 := (30, [(0, .ref 69), (1, .int (nI a))], [])) (f2 := (36, [(0, .ref 69), (1, .int (nI a))], [])) rfl (fun c2 => absurd (of_decide_eq_true c2) (nI_ne0 (by omega) (by omega))) (fun c2 => ?_)
  refine zk_T.adv 1 (f' := (37, [(0, .ref 69), (1, .int (nI a))], [.ref 69])) (h' := zH (zb v 68 (upd (upd (v 68) 0 0) 11 0)) w t) rfl ?_
  refine zk_T.cl (v := none) (h' := zH (zb (zb v 68 (upd (upd (upd (v 68) 0 0) 11 0) 23 (nI (k + 1)))) 77 (zr_cpSu (v 75) (v 77) (16 * k))) w t) rfl (zs_mnote_f (v := (zb v 68 (upd (upd (v 68) 0 0) 11 0))) (w := w) k hk hk16) ?_
  show zk_T zk_mt zk_ex Ls xs zm_179 (40, [(0, .ref 69), (1, .int (nI a))], []) (zH (zb (zb v 68 (upd (upd (upd (v 68) 0 0) 11 0) 23 (nI (k + 1)))) 77 (zr_cpSu (v 75) (v 77) (16 * k))) w t) _
  refine zk_T.adv 5 (f' := (48, [(0, .ref 69), (1, .int (nI a))], [.int (10 + (nI a)), .ref 76])) (h' := zH (zb (zb v 68 (upd (upd (upd (v 68) 0 0) 11 0) 23 (nI (k + 1)))) 77 (zr_cpSu (v 75) (v 77) (16 * k))) w t) rfl ?_
  rw [show 10 + (nI a) = nI (10 + a) from nI_add 10 a]
  refine zk_T.ob (f' := (49, [(0, .ref 69), (1, .int (nI a))], [.int (v 75 (nI (10 + a)).toNatClampNeg)])) (h' := zH (zb (zb v 68 (upd (upd (upd (v 68) 0 0) 11 0) 23 (nI (k + 1)))) 77 (zr_cpSu (v 75) (v 77) (16 * k))) w t) rfl (by first | exact zk_inN (by omega) (by decide) | decide) ?_
  rw [nI_clamp (show (10 + a) < 2 ^ 31 by omega)]
  rw [hI]
  refine zk_T.adv 2 (f' := (51, [(0, .ref 69), (1, .int (nI a))], [.int ((nI (e + 1)) - 1)])) (h' := zH (zb (zb v 68 (upd (upd (upd (v 68) 0 0) 11 0) 23 (nI (k + 1)))) 77 (zr_cpSu (v 75) (v 77) (16 * k))) w t) rfl ?_
  rw [show (nI (e + 1)) - 1 = nI e from nI_pred e]
  refine zk_T.adv 6 (f' := (60, [(0, .ref 69), (1, .int (nI a)), (2, .int (nI e))], [.int (10 + (nI a)), .ref 76])) (h' := zH (zb (zb v 68 (upd (upd (upd (v 68) 0 0) 11 0) 23 (nI (k + 1)))) 77 (zr_cpSu (v 75) (v 77) (16 * k))) w t) rfl ?_
  rw [show 10 + (nI a) = nI (10 + a) from nI_add 10 a]
  refine zk_T.adv 1 (f' := (61, [(0, .ref 69), (1, .int (nI a)), (2, .int (nI e))], [.int 0, .int (nI (10 + a)), .ref 76])) (h' := zH (zb (zb v 68 (upd (upd (upd (v 68) 0 0) 11 0) 23 (nI (k + 1)))) 77 (zr_cpSu (v 75) (v 77) (16 * k))) w t) rfl ?_
  refine zk_T.ob (f' := (62, [(0, .ref 69), (1, .int (nI a)), (2, .int (nI e))], [])) (h' := zH (zb (zb (zb v 68 (upd (upd (upd (v 68) 0 0) 11 0) 23 (nI (k + 1)))) 75 (upd (v 75) (nI (10 + a)).toNatClampNeg 0)) 77 (zr_cpSu (v 75) (v 77) (16 * k))) w t) rfl (by first | exact zk_inN (by omega) (by decide) | decide) ?_
  rw [nI_clamp (show (10 + a) < 2 ^ 31 by omega)]
  refine zk_T.adv 1 (f' := (63, [(0, .ref 69), (1, .int (nI a)), (2, .int (nI e))], [.int (nI e)])) (h' := zH (zb (zb (zb v 68 (upd (upd (upd (v 68) 0 0) 11 0) 23 (nI (k + 1)))) 75 (upd (v 75) (10 + a) 0)) 77 (zr_cpSu (v 75) (v 77) (16 * k))) w t) rfl ?_
  exact zk_T.rt rfl rfl (by rfl)
set_option maxRecDepth 20000 in
/-- BasketKeepModel.take -/
theorem zM_take_g (a : Nat) (ha : a < 4) (hg : zr_misX (v 68 14) (v 71 3) (nI a) = 1) (e : Nat) (he : e < 5) (hI : v 75 (10 + a) = nI (e + 1)) (hk : v 68 23 = 16) : zk_Cr zk_mt zk_ex Ls xs 179 [.ref 69, .int (nI a)] (zH v w t) (some (.int (nI e)), zH (zb (zb (zb v 68 (upd (upd (upd (v 68) 0 0) 11 0) 23 16)) 75 (upd (v 75) (10 + a) 0)) 77 (zr_cpSu (v 75) (zf zl_mnoteG 240 0 (v 77)) 240)) w t) := by
  refine zk_Cr.of (K := zm_179) rfl rfl rfl ?_
  show zk_T zk_mt zk_ex Ls xs zm_179 (0, [(0, .ref 69), (1, .int (nI a))], []) (zH v w t) _
  refine zk_T.adv 1 (f' := (1, [(0, .ref 69), (1, .int (nI a))], [.ref 69])) (h' := zH v w t) rfl ?_
  refine zk_T.cl (v := none) (h' := zH (zb v 68 (upd (upd (v 68) 0 0) 11 0)) w t) rfl (zs_manew (v := v) (w := w)) ?_
  show zk_T zk_mt zk_ex Ls xs zm_179 (4, [(0, .ref 69), (1, .int (nI a))], []) (zH (zb v 68 (upd (upd (v 68) 0 0) 11 0)) w t) _
  refine zk_T.adv 2 (f' := (6, [(0, .ref 69), (1, .int (nI a))], [.int (nI a), .ref 69])) (h' := zH (zb v 68 (upd (upd (v 68) 0 0) 11 0)) w t) rfl ?_
  refine zk_T.cl (v := some (.int 1)) (h' := zH (zb v 68 (upd (upd (v 68) 0 0) 11 0)) w t) rfl (by have ee_ : zk_Cr zk_mt zk_ex Ls xs 117 [.ref 69, .int (nI a)] (zH (zb v 68 (upd (upd (v 68) 0 0) 11 0)) w t) (some (.int (zr_misX (v 68 14) (v 71 3) (nI a))), zH (zb v 68 (upd (upd (v 68) 0 0) 11 0)) w t) := zs_misGood (v := (zb v 68 (upd (upd (v 68) 0 0) 11 0))) (w := w) (nI a); rw [show (zr_misX (v 68 14) (v 71 3) (nI a)) = 1 from hg] at ee_; exact ee_) ?_
  show zk_T zk_mt zk_ex Ls xs zm_179 (9, [(0, .ref 69), (1, .int (nI a))], [.int 1]) (zH (zb v 68 (upd (upd (v 68) 0 0) 11 0)) w t) _
  refine zk_T.br (f1 := (12, [(0, .ref 69), (1, .int (nI a))], [])) (f2 := (18, [(0, .ref 69), (1, .int (nI a))], [])) rfl (fun c1 => absurd (of_decide_eq_true c1) (by decide)) (fun c1 => ?_)
  refine zk_T.adv 5 (f' := (26, [(0, .ref 69), (1, .int (nI a))], [.int (10 + (nI a)), .ref 76])) (h' := zH (zb v 68 (upd (upd (v 68) 0 0) 11 0)) w t) rfl ?_
  rw [show 10 + (nI a) = nI (10 + a) from nI_add 10 a]
  refine zk_T.ob (f' := (27, [(0, .ref 69), (1, .int (nI a))], [.int (v 75 (nI (10 + a)).toNatClampNeg)])) (h' := zH (zb v 68 (upd (upd (v 68) 0 0) 11 0)) w t) rfl (by first | exact zk_inN (by omega) (by decide) | decide) ?_
  rw [nI_clamp (show (10 + a) < 2 ^ 31 by omega)]
  rw [hI]
  refine zk_T.br (f1 := (30, [(0, .ref 69), (1, .int (nI a))], [])) (f2 := (36, [(0, .ref 69), (1, .int (nI a))], [])) rfl (fun c2 => absurd (of_decide_eq_true c2) (nI_ne0 (by omega) (by omega))) (fun c2 => ?_)
  refine zk_T.adv 1 (f' := (37, [(0, .ref 69), (1, .int (nI a))], [.ref 69])) (h' := zH (zb v 68 (upd (upd (v 68) 0 0) 11 0)) w t) rfl ?_
  refine zk_T.cl (v := none) (h' := zH (zb (zb v 68 (upd (upd (upd (v 68) 0 0) 11 0) 23 16)) 77 (zr_cpSu (v 75) (zf zl_mnoteG 240 0 (v 77)) 240)) w t) rfl (zs_mnote_16 (v := (zb v 68 (upd (upd (v 68) 0 0) 11 0))) (w := w) hk) ?_
  show zk_T zk_mt zk_ex Ls xs zm_179 (40, [(0, .ref 69), (1, .int (nI a))], []) (zH (zb (zb v 68 (upd (upd (upd (v 68) 0 0) 11 0) 23 16)) 77 (zr_cpSu (v 75) (zf zl_mnoteG 240 0 (v 77)) 240)) w t) _
  refine zk_T.adv 5 (f' := (48, [(0, .ref 69), (1, .int (nI a))], [.int (10 + (nI a)), .ref 76])) (h' := zH (zb (zb v 68 (upd (upd (upd (v 68) 0 0) 11 0) 23 16)) 77 (zr_cpSu (v 75) (zf zl_mnoteG 240 0 (v 77)) 240)) w t) rfl ?_
  rw [show 10 + (nI a) = nI (10 + a) from nI_add 10 a]
  refine zk_T.ob (f' := (49, [(0, .ref 69), (1, .int (nI a))], [.int (v 75 (nI (10 + a)).toNatClampNeg)])) (h' := zH (zb (zb v 68 (upd (upd (upd (v 68) 0 0) 11 0) 23 16)) 77 (zr_cpSu (v 75) (zf zl_mnoteG 240 0 (v 77)) 240)) w t) rfl (by first | exact zk_inN (by omega) (by decide) | decide) ?_
  rw [nI_clamp (show (10 + a) < 2 ^ 31 by omega)]
  rw [hI]
  refine zk_T.adv 2 (f' := (51, [(0, .ref 69), (1, .int (nI a))], [.int ((nI (e + 1)) - 1)])) (h' := zH (zb (zb v 68 (upd (upd (upd (v 68) 0 0) 11 0) 23 16)) 77 (zr_cpSu (v 75) (zf zl_mnoteG 240 0 (v 77)) 240)) w t) rfl ?_
  rw [show (nI (e + 1)) - 1 = nI e from nI_pred e]
  refine zk_T.adv 6 (f' := (60, [(0, .ref 69), (1, .int (nI a)), (2, .int (nI e))], [.int (10 + (nI a)), .ref 76])) (h' := zH (zb (zb v 68 (upd (upd (upd (v 68) 0 0) 11 0) 23 16)) 77 (zr_cpSu (v 75) (zf zl_mnoteG 240 0 (v 77)) 240)) w t) rfl ?_
  rw [show 10 + (nI a) = nI (10 + a) from nI_add 10 a]
  refine zk_T.adv 1 (f' := (61, [(0, .ref 69), (1, .int (nI a)), (2, .int (nI e))], [.int 0, .int (nI (10 + a)), .ref 76])) (h' := zH (zb (zb v 68 (upd (upd (upd (v 68) 0 0) 11 0) 23 16)) 77 (zr_cpSu (v 75) (zf zl_mnoteG 240 0 (v 77)) 240)) w t) rfl ?_
  refine zk_T.ob (f' := (62, [(0, .ref 69), (1, .int (nI a)), (2, .int (nI e))], [])) (h' := zH (zb (zb (zb v 68 (upd (upd (upd (v 68) 0 0) 11 0) 23 16)) 75 (upd (v 75) (nI (10 + a)).toNatClampNeg 0)) 77 (zr_cpSu (v 75) (zf zl_mnoteG 240 0 (v 77)) 240)) w t) rfl (by first | exact zk_inN (by omega) (by decide) | decide) ?_
  rw [nI_clamp (show (10 + a) < 2 ^ 31 by omega)]
  refine zk_T.adv 1 (f' := (63, [(0, .ref 69), (1, .int (nI a)), (2, .int (nI e))], [.int (nI e)])) (h' := zH (zb (zb (zb v 68 (upd (upd (upd (v 68) 0 0) 11 0) 23 16)) 75 (upd (v 75) (10 + a) 0)) 77 (zr_cpSu (v 75) (zf zl_mnoteG 240 0 (v 77)) 240)) w t) rfl ?_
  exact zk_T.rt rfl rfl (by rfl)
/-- BasketKeepModel.think -/
theorem zM_think_t (x y : Int32) (hg : zr_misX (v 68 14) (v 71 2) x = 0) : zk_Cr zk_mt zk_ex Ls xs 180 [.ref 69, .int x, .int y] (zH v w t) (some (.int (-1)), zH (zb v 68 (upd (upd (v 68) 0 0) 11 1)) w t) := by
  refine zk_Cr.of (K := zm_180) rfl rfl rfl ?_
  show zk_T zk_mt zk_ex Ls xs zm_180 (0, [(0, .ref 69), (1, .int x), (2, .int y)], []) (zH v w t) _
  refine zk_T.adv 1 (f' := (1, [(0, .ref 69), (1, .int x), (2, .int y)], [.ref 69])) (h' := zH v w t) rfl ?_
  refine zk_T.cl (v := none) (h' := zH (zb v 68 (upd (upd (v 68) 0 0) 11 0)) w t) rfl (zs_manew (v := v) (w := w)) ?_
  show zk_T zk_mt zk_ex Ls xs zm_180 (4, [(0, .ref 69), (1, .int x), (2, .int y)], []) (zH (zb v 68 (upd (upd (v 68) 0 0) 11 0)) w t) _
  refine zk_T.adv 2 (f' := (6, [(0, .ref 69), (1, .int x), (2, .int y)], [.int x, .ref 69])) (h' := zH (zb v 68 (upd (upd (v 68) 0 0) 11 0)) w t) rfl ?_
  refine zk_T.cl (v := some (.int 0)) (h' := zH (zb v 68 (upd (upd (v 68) 0 0) 11 0)) w t) rfl (by have ee_ : zk_Cr zk_mt zk_ex Ls xs 118 [.ref 69, .int x] (zH (zb v 68 (upd (upd (v 68) 0 0) 11 0)) w t) (some (.int (zr_misX (v 68 14) (v 71 2) x)), zH (zb v 68 (upd (upd (v 68) 0 0) 11 0)) w t) := zs_misMaker (v := (zb v 68 (upd (upd (v 68) 0 0) 11 0))) (w := w) x; rw [show (zr_misX (v 68 14) (v 71 2) x) = 0 from hg] at ee_; exact ee_) ?_
  show zk_T zk_mt zk_ex Ls xs zm_180 (9, [(0, .ref 69), (1, .int x), (2, .int y)], [.int 0]) (zH (zb v 68 (upd (upd (v 68) 0 0) 11 0)) w t) _
  refine zk_T.br (f1 := (20, [(0, .ref 69), (1, .int x), (2, .int y)], [])) (f2 := (12, [(0, .ref 69), (1, .int x), (2, .int y)], [])) rfl (fun c1 => ?_) (fun c1 => absurd (by decide) (of_decide_eq_false c1))
  refine zk_T.adv 2 (f' := (22, [(0, .ref 69), (1, .int x), (2, .int y)], [.int 1, .ref 69])) (h' := zH (zb v 68 (upd (upd (v 68) 0 0) 11 0)) w t) rfl ?_
  refine zk_T.cl (v := some (.int (-1))) (h' := zH (zb v 68 (upd (upd (v 68) 0 0) 11 1)) w t) rfl (zs_mno (v := (zb v 68 (upd (upd (v 68) 0 0) 11 0))) (w := w) 1) ?_
  show zk_T zk_mt zk_ex Ls xs zm_180 (25, [(0, .ref 69), (1, .int x), (2, .int y)], [.int (-1)]) (zH (zb v 68 (upd (upd (v 68) 0 0) 11 1)) w t) _
  exact zk_T.rt rfl rfl (by rfl)
/-- BasketKeepModel.think -/
theorem zM_think_d (x y : Int32) (hg : zr_misX (v 68 14) (v 71 2) x = 1) (hg2 : zr_misX (v 68 14) (v 71 1) y = 0) : zk_Cr zk_mt zk_ex Ls xs 180 [.ref 69, .int x, .int y] (zH v w t) (some (.int (-1)), zH (zb v 68 (upd (upd (v 68) 0 0) 11 1)) w t) := by
  refine zk_Cr.of (K := zm_180) rfl rfl rfl ?_
  show zk_T zk_mt zk_ex Ls xs zm_180 (0, [(0, .ref 69), (1, .int x), (2, .int y)], []) (zH v w t) _
  refine zk_T.adv 1 (f' := (1, [(0, .ref 69), (1, .int x), (2, .int y)], [.ref 69])) (h' := zH v w t) rfl ?_
  refine zk_T.cl (v := none) (h' := zH (zb v 68 (upd (upd (v 68) 0 0) 11 0)) w t) rfl (zs_manew (v := v) (w := w)) ?_
  show zk_T zk_mt zk_ex Ls xs zm_180 (4, [(0, .ref 69), (1, .int x), (2, .int y)], []) (zH (zb v 68 (upd (upd (v 68) 0 0) 11 0)) w t) _
  refine zk_T.adv 2 (f' := (6, [(0, .ref 69), (1, .int x), (2, .int y)], [.int x, .ref 69])) (h' := zH (zb v 68 (upd (upd (v 68) 0 0) 11 0)) w t) rfl ?_
  refine zk_T.cl (v := some (.int 1)) (h' := zH (zb v 68 (upd (upd (v 68) 0 0) 11 0)) w t) rfl (by have ee_ : zk_Cr zk_mt zk_ex Ls xs 118 [.ref 69, .int x] (zH (zb v 68 (upd (upd (v 68) 0 0) 11 0)) w t) (some (.int (zr_misX (v 68 14) (v 71 2) x)), zH (zb v 68 (upd (upd (v 68) 0 0) 11 0)) w t) := zs_misMaker (v := (zb v 68 (upd (upd (v 68) 0 0) 11 0))) (w := w) x; rw [show (zr_misX (v 68 14) (v 71 2) x) = 1 from hg] at ee_; exact ee_) ?_
  show zk_T zk_mt zk_ex Ls xs zm_180 (9, [(0, .ref 69), (1, .int x), (2, .int y)], [.int 1]) (zH (zb v 68 (upd (upd (v 68) 0 0) 11 0)) w t) _
  refine zk_T.br (f1 := (20, [(0, .ref 69), (1, .int x), (2, .int y)], [])) (f2 := (12, [(0, .ref 69), (1, .int x), (2, .int y)], [])) rfl (fun c1 => absurd (of_decide_eq_true c1) (by decide)) (fun c1 => ?_)
  refine zk_T.adv 2 (f' := (14, [(0, .ref 69), (1, .int x), (2, .int y)], [.int y, .ref 69])) (h' := zH (zb v 68 (upd (upd (v 68) 0 0) 11 0)) w t) rfl ?_
  refine zk_T.cl (v := some (.int 0)) (h' := zH (zb v 68 (upd (upd (v 68) 0 0) 11 0)) w t) rfl (by have ee_ : zk_Cr zk_mt zk_ex Ls xs 116 [.ref 69, .int y] (zH (zb v 68 (upd (upd (v 68) 0 0) 11 0)) w t) (some (.int (zr_misX (v 68 14) (v 71 1) y)), zH (zb v 68 (upd (upd (v 68) 0 0) 11 0)) w t) := zs_misDanger (v := (zb v 68 (upd (upd (v 68) 0 0) 11 0))) (w := w) y; rw [show (zr_misX (v 68 14) (v 71 1) y) = 0 from hg2] at ee_; exact ee_) ?_
  show zk_T zk_mt zk_ex Ls xs zm_180 (17, [(0, .ref 69), (1, .int x), (2, .int y)], [.int 0]) (zH (zb v 68 (upd (upd (v 68) 0 0) 11 0)) w t) _
  refine zk_T.br (f1 := (20, [(0, .ref 69), (1, .int x), (2, .int y)], [])) (f2 := (26, [(0, .ref 69), (1, .int x), (2, .int y)], [])) rfl (fun c2 => ?_) (fun c2 => absurd (by decide) (of_decide_eq_false c2))
  refine zk_T.adv 2 (f' := (22, [(0, .ref 69), (1, .int x), (2, .int y)], [.int 1, .ref 69])) (h' := zH (zb v 68 (upd (upd (v 68) 0 0) 11 0)) w t) rfl ?_
  refine zk_T.cl (v := some (.int (-1))) (h' := zH (zb v 68 (upd (upd (v 68) 0 0) 11 1)) w t) rfl (zs_mno (v := (zb v 68 (upd (upd (v 68) 0 0) 11 0))) (w := w) 1) ?_
  show zk_T zk_mt zk_ex Ls xs zm_180 (25, [(0, .ref 69), (1, .int x), (2, .int y)], [.int (-1)]) (zH (zb v 68 (upd (upd (v 68) 0 0) 11 1)) w t) _
  exact zk_T.rt rfl rfl (by rfl)
/-- BasketKeepModel.think -/
theorem zM_think_f (e : Nat) (he : e < 5) (hg : zr_misX (v 68 14) (v 71 2) (nI e) = 1) (y : Int32) (hg2 : zr_misX (v 68 14) (v 71 1) y = 1) (k : Nat) (hk : v 68 23 = nI k) (hk16 : k < 16) : zk_Cr zk_mt zk_ex Ls xs 180 [.ref 69, .int (nI e), .int y] (zH v w t) (some (.int ((upd (v 75) (5 + e) ((v 75 (5 + e)) ^^^ ((1 : Int32) <<< (y &&& 31)))) (5 + e))), zH (zb (zb (zb v 68 (upd (upd (upd (v 68) 0 0) 11 0) 23 (nI (k + 1)))) 75 (upd (v 75) (5 + e) ((v 75 (5 + e)) ^^^ ((1 : Int32) <<< (y &&& 31))))) 77 (zr_cpSu (v 75) (v 77) (16 * k))) w t) := by
  refine zk_Cr.of (K := zm_180) rfl rfl rfl ?_
  show zk_T zk_mt zk_ex Ls xs zm_180 (0, [(0, .ref 69), (1, .int (nI e)), (2, .int y)], []) (zH v w t) _
  refine zk_T.adv 1 (f' := (1, [(0, .ref 69), (1, .int (nI e)), (2, .int y)], [.ref 69])) (h' := zH v w t) rfl ?_
  refine zk_T.cl (v := none) (h' := zH (zb v 68 (upd (upd (v 68) 0 0) 11 0)) w t) rfl (zs_manew (v := v) (w := w)) ?_
  show zk_T zk_mt zk_ex Ls xs zm_180 (4, [(0, .ref 69), (1, .int (nI e)), (2, .int y)], []) (zH (zb v 68 (upd (upd (v 68) 0 0) 11 0)) w t) _
  refine zk_T.adv 2 (f' := (6, [(0, .ref 69), (1, .int (nI e)), (2, .int y)], [.int (nI e), .ref 69])) (h' := zH (zb v 68 (upd (upd (v 68) 0 0) 11 0)) w t) rfl ?_
  refine zk_T.cl (v := some (.int 1)) (h' := zH (zb v 68 (upd (upd (v 68) 0 0) 11 0)) w t) rfl (by have ee_ : zk_Cr zk_mt zk_ex Ls xs 118 [.ref 69, .int (nI e)] (zH (zb v 68 (upd (upd (v 68) 0 0) 11 0)) w t) (some (.int (zr_misX (v 68 14) (v 71 2) (nI e))), zH (zb v 68 (upd (upd (v 68) 0 0) 11 0)) w t) := zs_misMaker (v := (zb v 68 (upd (upd (v 68) 0 0) 11 0))) (w := w) (nI e); rw [show (zr_misX (v 68 14) (v 71 2) (nI e)) = 1 from hg] at ee_; exact ee_) ?_
  show zk_T zk_mt zk_ex Ls xs zm_180 (9, [(0, .ref 69), (1, .int (nI e)), (2, .int y)], [.int 1]) (zH (zb v 68 (upd (upd (v 68) 0 0) 11 0)) w t) _
  refine zk_T.br (f1 := (20, [(0, .ref 69), (1, .int (nI e)), (2, .int y)], [])) (f2 := (12, [(0, .ref 69), (1, .int (nI e)), (2, .int y)], [])) rfl (fun c1 => absurd (of_decide_eq_true c1) (by decide)) (fun c1 => ?_)
  refine zk_T.adv 2 (f' := (14, [(0, .ref 69), (1, .int (nI e)), (2, .int y)], [.int y, .ref 69])) (h' := zH (zb v 68 (upd (upd (v 68) 0 0) 11 0)) w t) rfl ?_
  refine zk_T.cl (v := some (.int 1)) (h' := zH (zb v 68 (upd (upd (v 68) 0 0) 11 0)) w t) rfl (by have ee_ : zk_Cr zk_mt zk_ex Ls xs 116 [.ref 69, .int y] (zH (zb v 68 (upd (upd (v 68) 0 0) 11 0)) w t) (some (.int (zr_misX (v 68 14) (v 71 1) y)), zH (zb v 68 (upd (upd (v 68) 0 0) 11 0)) w t) := zs_misDanger (v := (zb v 68 (upd (upd (v 68) 0 0) 11 0))) (w := w) y; rw [show (zr_misX (v 68 14) (v 71 1) y) = 1 from hg2] at ee_; exact ee_) ?_
  show zk_T zk_mt zk_ex Ls xs zm_180 (17, [(0, .ref 69), (1, .int (nI e)), (2, .int y)], [.int 1]) (zH (zb v 68 (upd (upd (v 68) 0 0) 11 0)) w t) _
  refine zk_T.br (f1 := (20, [(0, .ref 69), (1, .int (nI e)), (2, .int y)], [])) (f2 := (26, [(0, .ref 69), (1, .int (nI e)), (2, .int y)], [])) rfl (fun c2 => absurd (of_decide_eq_true c2) (by decide)) (fun c2 => ?_)
  refine zk_T.adv 1 (f' := (27, [(0, .ref 69), (1, .int (nI e)), (2, .int y)], [.ref 69])) (h' := zH (zb v 68 (upd (upd (v 68) 0 0) 11 0)) w t) rfl ?_
  refine zk_T.cl (v := none) (h' := zH (zb (zb v 68 (upd (upd (upd (v 68) 0 0) 11 0) 23 (nI (k + 1)))) 77 (zr_cpSu (v 75) (v 77) (16 * k))) w t) rfl (zs_mnote_f (v := (zb v 68 (upd (upd (v 68) 0 0) 11 0))) (w := w) k hk hk16) ?_
  show zk_T zk_mt zk_ex Ls xs zm_180 (30, [(0, .ref 69), (1, .int (nI e)), (2, .int y)], []) (zH (zb (zb v 68 (upd (upd (upd (v 68) 0 0) 11 0) 23 (nI (k + 1)))) 77 (zr_cpSu (v 75) (v 77) (16 * k))) w t) _
  refine zk_T.adv 5 (f' := (37, [(0, .ref 69), (1, .int (nI e)), (2, .int y)], [.int (5 + (nI e)), .ref 76])) (h' := zH (zb (zb v 68 (upd (upd (upd (v 68) 0 0) 11 0) 23 (nI (k + 1)))) 77 (zr_cpSu (v 75) (v 77) (16 * k))) w t) rfl ?_
  rw [show 5 + (nI e) = nI (5 + e) from nI_add 5 e]
  refine zk_T.adv 1 (f' := (38, [(0, .ref 69), (1, .int (nI e)), (2, .int y)], [.int (nI (5 + e)), .ref 76, .int (nI (5 + e)), .ref 76])) (h' := zH (zb (zb v 68 (upd (upd (upd (v 68) 0 0) 11 0) 23 (nI (k + 1)))) 77 (zr_cpSu (v 75) (v 77) (16 * k))) w t) rfl ?_
  refine zk_T.ob (f' := (39, [(0, .ref 69), (1, .int (nI e)), (2, .int y)], [.int (v 75 (nI (5 + e)).toNatClampNeg), .int (nI (5 + e)), .ref 76])) (h' := zH (zb (zb v 68 (upd (upd (upd (v 68) 0 0) 11 0) 23 (nI (k + 1)))) 77 (zr_cpSu (v 75) (v 77) (16 * k))) w t) rfl (by first | exact zk_inN (by omega) (by decide) | decide) ?_
  rw [nI_clamp (show (5 + e) < 2 ^ 31 by omega)]
  refine zk_T.adv 4 (f' := (43, [(0, .ref 69), (1, .int (nI e)), (2, .int y)], [.int ((v 75 (5 + e)) ^^^ ((1 : Int32) <<< (y &&& 31))), .int (nI (5 + e)), .ref 76])) (h' := zH (zb (zb v 68 (upd (upd (upd (v 68) 0 0) 11 0) 23 (nI (k + 1)))) 77 (zr_cpSu (v 75) (v 77) (16 * k))) w t) rfl ?_
  refine zk_T.ob (f' := (44, [(0, .ref 69), (1, .int (nI e)), (2, .int y)], [])) (h' := zH (zb (zb (zb v 68 (upd (upd (upd (v 68) 0 0) 11 0) 23 (nI (k + 1)))) 75 (upd (v 75) (nI (5 + e)).toNatClampNeg ((v 75 (5 + e)) ^^^ ((1 : Int32) <<< (y &&& 31))))) 77 (zr_cpSu (v 75) (v 77) (16 * k))) w t) rfl (by first | exact zk_inN (by omega) (by decide) | decide) ?_
  rw [nI_clamp (show (5 + e) < 2 ^ 31 by omega)]
  refine zk_T.adv 5 (f' := (51, [(0, .ref 69), (1, .int (nI e)), (2, .int y)], [.int (5 + (nI e)), .ref 76])) (h' := zH (zb (zb (zb v 68 (upd (upd (upd (v 68) 0 0) 11 0) 23 (nI (k + 1)))) 75 (upd (v 75) (5 + e) ((v 75 (5 + e)) ^^^ ((1 : Int32) <<< (y &&& 31))))) 77 (zr_cpSu (v 75) (v 77) (16 * k))) w t) rfl ?_
  rw [show 5 + (nI e) = nI (5 + e) from nI_add 5 e]
  refine zk_T.ob (f' := (52, [(0, .ref 69), (1, .int (nI e)), (2, .int y)], [.int ((upd (v 75) (5 + e) ((v 75 (5 + e)) ^^^ ((1 : Int32) <<< (y &&& 31)))) (nI (5 + e)).toNatClampNeg)])) (h' := zH (zb (zb (zb v 68 (upd (upd (upd (v 68) 0 0) 11 0) 23 (nI (k + 1)))) 75 (upd (v 75) (5 + e) ((v 75 (5 + e)) ^^^ ((1 : Int32) <<< (y &&& 31))))) 77 (zr_cpSu (v 75) (v 77) (16 * k))) w t) rfl (by first | exact zk_inN (by omega) (by decide) | decide) ?_
  rw [nI_clamp (show (5 + e) < 2 ^ 31 by omega)]
  exact zk_T.rt rfl rfl (by rfl)
set_option maxRecDepth 20000 in
/-- BasketKeepModel.think -/
theorem zM_think_g (e : Nat) (he : e < 5) (hg : zr_misX (v 68 14) (v 71 2) (nI e) = 1) (y : Int32) (hg2 : zr_misX (v 68 14) (v 71 1) y = 1) (hk : v 68 23 = 16) : zk_Cr zk_mt zk_ex Ls xs 180 [.ref 69, .int (nI e), .int y] (zH v w t) (some (.int ((upd (v 75) (5 + e) ((v 75 (5 + e)) ^^^ ((1 : Int32) <<< (y &&& 31)))) (5 + e))), zH (zb (zb (zb v 68 (upd (upd (upd (v 68) 0 0) 11 0) 23 16)) 75 (upd (v 75) (5 + e) ((v 75 (5 + e)) ^^^ ((1 : Int32) <<< (y &&& 31))))) 77 (zr_cpSu (v 75) (zf zl_mnoteG 240 0 (v 77)) 240)) w t) := by
  refine zk_Cr.of (K := zm_180) rfl rfl rfl ?_
  show zk_T zk_mt zk_ex Ls xs zm_180 (0, [(0, .ref 69), (1, .int (nI e)), (2, .int y)], []) (zH v w t) _
  refine zk_T.adv 1 (f' := (1, [(0, .ref 69), (1, .int (nI e)), (2, .int y)], [.ref 69])) (h' := zH v w t) rfl ?_
  refine zk_T.cl (v := none) (h' := zH (zb v 68 (upd (upd (v 68) 0 0) 11 0)) w t) rfl (zs_manew (v := v) (w := w)) ?_
  show zk_T zk_mt zk_ex Ls xs zm_180 (4, [(0, .ref 69), (1, .int (nI e)), (2, .int y)], []) (zH (zb v 68 (upd (upd (v 68) 0 0) 11 0)) w t) _
  refine zk_T.adv 2 (f' := (6, [(0, .ref 69), (1, .int (nI e)), (2, .int y)], [.int (nI e), .ref 69])) (h' := zH (zb v 68 (upd (upd (v 68) 0 0) 11 0)) w t) rfl ?_
  refine zk_T.cl (v := some (.int 1)) (h' := zH (zb v 68 (upd (upd (v 68) 0 0) 11 0)) w t) rfl (by have ee_ : zk_Cr zk_mt zk_ex Ls xs 118 [.ref 69, .int (nI e)] (zH (zb v 68 (upd (upd (v 68) 0 0) 11 0)) w t) (some (.int (zr_misX (v 68 14) (v 71 2) (nI e))), zH (zb v 68 (upd (upd (v 68) 0 0) 11 0)) w t) := zs_misMaker (v := (zb v 68 (upd (upd (v 68) 0 0) 11 0))) (w := w) (nI e); rw [show (zr_misX (v 68 14) (v 71 2) (nI e)) = 1 from hg] at ee_; exact ee_) ?_
  show zk_T zk_mt zk_ex Ls xs zm_180 (9, [(0, .ref 69), (1, .int (nI e)), (2, .int y)], [.int 1]) (zH (zb v 68 (upd (upd (v 68) 0 0) 11 0)) w t) _
  refine zk_T.br (f1 := (20, [(0, .ref 69), (1, .int (nI e)), (2, .int y)], [])) (f2 := (12, [(0, .ref 69), (1, .int (nI e)), (2, .int y)], [])) rfl (fun c1 => absurd (of_decide_eq_true c1) (by decide)) (fun c1 => ?_)
  refine zk_T.adv 2 (f' := (14, [(0, .ref 69), (1, .int (nI e)), (2, .int y)], [.int y, .ref 69])) (h' := zH (zb v 68 (upd (upd (v 68) 0 0) 11 0)) w t) rfl ?_
  refine zk_T.cl (v := some (.int 1)) (h' := zH (zb v 68 (upd (upd (v 68) 0 0) 11 0)) w t) rfl (by have ee_ : zk_Cr zk_mt zk_ex Ls xs 116 [.ref 69, .int y] (zH (zb v 68 (upd (upd (v 68) 0 0) 11 0)) w t) (some (.int (zr_misX (v 68 14) (v 71 1) y)), zH (zb v 68 (upd (upd (v 68) 0 0) 11 0)) w t) := zs_misDanger (v := (zb v 68 (upd (upd (v 68) 0 0) 11 0))) (w := w) y; rw [show (zr_misX (v 68 14) (v 71 1) y) = 1 from hg2] at ee_; exact ee_) ?_
  show zk_T zk_mt zk_ex Ls xs zm_180 (17, [(0, .ref 69), (1, .int (nI e)), (2, .int y)], [.int 1]) (zH (zb v 68 (upd (upd (v 68) 0 0) 11 0)) w t) _
  refine zk_T.br (f1 := (20, [(0, .ref 69), (1, .int (nI e)), (2, .int y)], [])) (f2 := (26, [(0, .ref 69), (1, .int (nI e)), (2, .int y)], [])) rfl (fun c2 => absurd (of_decide_eq_true c2) (by decide)) (fun c2 => ?_)
  refine zk_T.adv 1 (f' := (27, [(0, .ref 69), (1, .int (nI e)), (2, .int y)], [.ref 69])) (h' := zH (zb v 68 (upd (upd (v 68) 0 0) 11 0)) w t) rfl ?_
  refine zk_T.cl (v := none) (h' := zH (zb (zb v 68 (upd (upd (upd (v 68) 0 0) 11 0) 23 16)) 77 (zr_cpSu (v 75) (zf zl_mnoteG 240 0 (v 77)) 240)) w t) rfl (zs_mnote_16 (v := (zb v 68 (upd (upd (v 68) 0 0) 11 0))) (w := w) hk) ?_
  show zk_T zk_mt zk_ex Ls xs zm_180 (30, [(0, .ref 69), (1, .int (nI e)), (2, .int y)], []) (zH (zb (zb v 68 (upd (upd (upd (v 68) 0 0) 11 0) 23 16)) 77 (zr_cpSu (v 75) (zf zl_mnoteG 240 0 (v 77)) 240)) w t) _
  refine zk_T.adv 5 (f' := (37, [(0, .ref 69), (1, .int (nI e)), (2, .int y)], [.int (5 + (nI e)), .ref 76])) (h' := zH (zb (zb v 68 (upd (upd (upd (v 68) 0 0) 11 0) 23 16)) 77 (zr_cpSu (v 75) (zf zl_mnoteG 240 0 (v 77)) 240)) w t) rfl ?_
  rw [show 5 + (nI e) = nI (5 + e) from nI_add 5 e]
  refine zk_T.adv 1 (f' := (38, [(0, .ref 69), (1, .int (nI e)), (2, .int y)], [.int (nI (5 + e)), .ref 76, .int (nI (5 + e)), .ref 76])) (h' := zH (zb (zb v 68 (upd (upd (upd (v 68) 0 0) 11 0) 23 16)) 77 (zr_cpSu (v 75) (zf zl_mnoteG 240 0 (v 77)) 240)) w t) rfl ?_
  refine zk_T.ob (f' := (39, [(0, .ref 69), (1, .int (nI e)), (2, .int y)], [.int (v 75 (nI (5 + e)).toNatClampNeg), .int (nI (5 + e)), .ref 76])) (h' := zH (zb (zb v 68 (upd (upd (upd (v 68) 0 0) 11 0) 23 16)) 77 (zr_cpSu (v 75) (zf zl_mnoteG 240 0 (v 77)) 240)) w t) rfl (by first | exact zk_inN (by omega) (by decide) | decide) ?_
  rw [nI_clamp (show (5 + e) < 2 ^ 31 by omega)]
  refine zk_T.adv 4 (f' := (43, [(0, .ref 69), (1, .int (nI e)), (2, .int y)], [.int ((v 75 (5 + e)) ^^^ ((1 : Int32) <<< (y &&& 31))), .int (nI (5 + e)), .ref 76])) (h' := zH (zb (zb v 68 (upd (upd (upd (v 68) 0 0) 11 0) 23 16)) 77 (zr_cpSu (v 75) (zf zl_mnoteG 240 0 (v 77)) 240)) w t) rfl ?_
  refine zk_T.ob (f' := (44, [(0, .ref 69), (1, .int (nI e)), (2, .int y)], [])) (h' := zH (zb (zb (zb v 68 (upd (upd (upd (v 68) 0 0) 11 0) 23 16)) 75 (upd (v 75) (nI (5 + e)).toNatClampNeg ((v 75 (5 + e)) ^^^ ((1 : Int32) <<< (y &&& 31))))) 77 (zr_cpSu (v 75) (zf zl_mnoteG 240 0 (v 77)) 240)) w t) rfl (by first | exact zk_inN (by omega) (by decide) | decide) ?_
  rw [nI_clamp (show (5 + e) < 2 ^ 31 by omega)]
  refine zk_T.adv 5 (f' := (51, [(0, .ref 69), (1, .int (nI e)), (2, .int y)], [.int (5 + (nI e)), .ref 76])) (h' := zH (zb (zb (zb v 68 (upd (upd (upd (v 68) 0 0) 11 0) 23 16)) 75 (upd (v 75) (5 + e) ((v 75 (5 + e)) ^^^ ((1 : Int32) <<< (y &&& 31))))) 77 (zr_cpSu (v 75) (zf zl_mnoteG 240 0 (v 77)) 240)) w t) rfl ?_
  rw [show 5 + (nI e) = nI (5 + e) from nI_add 5 e]
  refine zk_T.ob (f' := (52, [(0, .ref 69), (1, .int (nI e)), (2, .int y)], [.int ((upd (v 75) (5 + e) ((v 75 (5 + e)) ^^^ ((1 : Int32) <<< (y &&& 31)))) (nI (5 + e)).toNatClampNeg)])) (h' := zH (zb (zb (zb v 68 (upd (upd (upd (v 68) 0 0) 11 0) 23 16)) 75 (upd (v 75) (5 + e) ((v 75 (5 + e)) ^^^ ((1 : Int32) <<< (y &&& 31))))) 77 (zr_cpSu (v 75) (zf zl_mnoteG 240 0 (v 77)) 240)) w t) rfl (by first | exact zk_inN (by omega) (by decide) | decide) ?_
  rw [nI_clamp (show (5 + e) < 2 ^ 31 by omega)]
  exact zk_T.rt rfl rfl (by rfl)
/-- BasketKeepModel.mend -/
theorem zM_mend_t (x : Int32) (hg : zr_misX (v 68 14) (v 71 2) x = 0) : zk_Cr zk_mt zk_ex Ls xs 168 [.ref 69, .int x] (zH v w t) (some (.int 0), zH (zb v 68 (upd (upd (v 68) 0 0) 11 1)) w t) := by
  refine zk_Cr.of (K := zm_168) rfl rfl rfl ?_
  show zk_T zk_mt zk_ex Ls xs zm_168 (0, [(0, .ref 69), (1, .int x)], []) (zH v w t) _
  refine zk_T.adv 1 (f' := (1, [(0, .ref 69), (1, .int x)], [.ref 69])) (h' := zH v w t) rfl ?_
  refine zk_T.cl (v := none) (h' := zH (zb v 68 (upd (upd (v 68) 0 0) 11 0)) w t) rfl (zs_manew (v := v) (w := w)) ?_
  show zk_T zk_mt zk_ex Ls xs zm_168 (4, [(0, .ref 69), (1, .int x)], []) (zH (zb v 68 (upd (upd (v 68) 0 0) 11 0)) w t) _
  refine zk_T.adv 2 (f' := (6, [(0, .ref 69), (1, .int x)], [.int x, .ref 69])) (h' := zH (zb v 68 (upd (upd (v 68) 0 0) 11 0)) w t) rfl ?_
  refine zk_T.cl (v := some (.int 0)) (h' := zH (zb v 68 (upd (upd (v 68) 0 0) 11 0)) w t) rfl (by have ee_ : zk_Cr zk_mt zk_ex Ls xs 118 [.ref 69, .int x] (zH (zb v 68 (upd (upd (v 68) 0 0) 11 0)) w t) (some (.int (zr_misX (v 68 14) (v 71 2) x)), zH (zb v 68 (upd (upd (v 68) 0 0) 11 0)) w t) := zs_misMaker (v := (zb v 68 (upd (upd (v 68) 0 0) 11 0))) (w := w) x; rw [show (zr_misX (v 68 14) (v 71 2) x) = 0 from hg] at ee_; exact ee_) ?_
  show zk_T zk_mt zk_ex Ls xs zm_168 (9, [(0, .ref 69), (1, .int x)], [.int 0]) (zH (zb v 68 (upd (upd (v 68) 0 0) 11 0)) w t) _
  refine zk_T.br (f1 := (12, [(0, .ref 69), (1, .int x)], [])) (f2 := (18, [(0, .ref 69), (1, .int x)], [])) rfl (fun c1 => ?_) (fun c1 => absurd (by decide) (of_decide_eq_false c1))
  refine zk_T.adv 2 (f' := (14, [(0, .ref 69), (1, .int x)], [.int 1, .ref 69])) (h' := zH (zb v 68 (upd (upd (v 68) 0 0) 11 0)) w t) rfl ?_
  refine zk_T.cl (v := some (.int 0)) (h' := zH (zb v 68 (upd (upd (v 68) 0 0) 11 1)) w t) rfl (zs_misNot (v := (zb v 68 (upd (upd (v 68) 0 0) 11 0))) (w := w) 1) ?_
  show zk_T zk_mt zk_ex Ls xs zm_168 (17, [(0, .ref 69), (1, .int x)], [.int 0]) (zH (zb v 68 (upd (upd (v 68) 0 0) 11 1)) w t) _
  exact zk_T.rt rfl rfl (by rfl)
/-- BasketKeepModel.mend -/
theorem zM_mend_5 (e : Nat) (he : e < 5) (hg : zr_misX (v 68 14) (v 71 2) (nI e) = 1) (hla : v 75 e = v 71 (23 + 2 * e + 1)) : zk_Cr zk_mt zk_ex Ls xs 168 [.ref 69, .int (nI e)] (zH v w t) (some (.int 0), zH (zb v 68 (upd (upd (v 68) 0 0) 11 5)) w t) := by
  refine zk_Cr.of (K := zm_168) rfl rfl rfl ?_
  show zk_T zk_mt zk_ex Ls xs zm_168 (0, [(0, .ref 69), (1, .int (nI e))], []) (zH v w t) _
  refine zk_T.adv 1 (f' := (1, [(0, .ref 69), (1, .int (nI e))], [.ref 69])) (h' := zH v w t) rfl ?_
  refine zk_T.cl (v := none) (h' := zH (zb v 68 (upd (upd (v 68) 0 0) 11 0)) w t) rfl (zs_manew (v := v) (w := w)) ?_
  show zk_T zk_mt zk_ex Ls xs zm_168 (4, [(0, .ref 69), (1, .int (nI e))], []) (zH (zb v 68 (upd (upd (v 68) 0 0) 11 0)) w t) _
  refine zk_T.adv 2 (f' := (6, [(0, .ref 69), (1, .int (nI e))], [.int (nI e), .ref 69])) (h' := zH (zb v 68 (upd (upd (v 68) 0 0) 11 0)) w t) rfl ?_
  refine zk_T.cl (v := some (.int 1)) (h' := zH (zb v 68 (upd (upd (v 68) 0 0) 11 0)) w t) rfl (by have ee_ : zk_Cr zk_mt zk_ex Ls xs 118 [.ref 69, .int (nI e)] (zH (zb v 68 (upd (upd (v 68) 0 0) 11 0)) w t) (some (.int (zr_misX (v 68 14) (v 71 2) (nI e))), zH (zb v 68 (upd (upd (v 68) 0 0) 11 0)) w t) := zs_misMaker (v := (zb v 68 (upd (upd (v 68) 0 0) 11 0))) (w := w) (nI e); rw [show (zr_misX (v 68 14) (v 71 2) (nI e)) = 1 from hg] at ee_; exact ee_) ?_
  show zk_T zk_mt zk_ex Ls xs zm_168 (9, [(0, .ref 69), (1, .int (nI e))], [.int 1]) (zH (zb v 68 (upd (upd (v 68) 0 0) 11 0)) w t) _
  refine zk_T.br (f1 := (12, [(0, .ref 69), (1, .int (nI e))], [])) (f2 := (18, [(0, .ref 69), (1, .int (nI e))], [])) rfl (fun c1 => absurd (of_decide_eq_true c1) (by decide)) (fun c1 => ?_)
  refine zk_T.adv 3 (f' := (23, [(0, .ref 69), (1, .int (nI e))], [.int (nI e), .ref 76])) (h' := zH (zb v 68 (upd (upd (v 68) 0 0) 11 0)) w t) rfl ?_
  refine zk_T.ob (f' := (24, [(0, .ref 69), (1, .int (nI e))], [.int (v 75 (nI e).toNatClampNeg)])) (h' := zH (zb v 68 (upd (upd (v 68) 0 0) 11 0)) w t) rfl (by first | exact zk_inN (by omega) (by decide) | decide) ?_
  rw [nI_clamp (show e < 2 ^ 31 by omega)]
  refine zk_T.adv 6 (f' := (33, [(0, .ref 69), (1, .int (nI e))], [.int (2 * (nI e)), .int 23, .ref 72, .int (v 75 e)])) (h' := zH (zb v 68 (upd (upd (v 68) 0 0) 11 0)) w t) rfl ?_
  rw [show 2 * (nI e) = nI (2 * e) from pk_mul 2 e]
  refine zk_T.adv 1 (f' := (34, [(0, .ref 69), (1, .int (nI e))], [.int (23 + (nI (2 * e))), .ref 72, .int (v 75 e)])) (h' := zH (zb v 68 (upd (upd (v 68) 0 0) 11 0)) w t) rfl ?_
  rw [show 23 + (nI (2 * e)) = nI (23 + (2 * e)) from nI_add 23 (2 * e)]
  refine zk_T.adv 2 (f' := (36, [(0, .ref 69), (1, .int (nI e))], [.int ((nI (23 + (2 * e))) + 1), .ref 72, .int (v 75 e)])) (h' := zH (zb v 68 (upd (upd (v 68) 0 0) 11 0)) w t) rfl ?_
  rw [show (nI (23 + (2 * e))) + 1 = nI ((23 + (2 * e)) + 1) from nI_add (23 + (2 * e)) 1]
  refine zk_T.ob (f' := (37, [(0, .ref 69), (1, .int (nI e))], [.int (v 71 (nI ((23 + (2 * e)) + 1)).toNatClampNeg), .int (v 75 e)])) (h' := zH (zb v 68 (upd (upd (v 68) 0 0) 11 0)) w t) rfl (by first | exact zk_inN (by omega) (by decide) | decide) ?_
  rw [nI_clamp (show ((23 + (2 * e)) + 1) < 2 ^ 31 by omega)]
  refine zk_T.br (f1 := (40, [(0, .ref 69), (1, .int (nI e))], [])) (f2 := (46, [(0, .ref 69), (1, .int (nI e))], [])) rfl (fun c2 => ?_) (fun c2 => absurd hla (of_decide_eq_false c2))
  refine zk_T.adv 2 (f' := (42, [(0, .ref 69), (1, .int (nI e))], [.int 5, .ref 69])) (h' := zH (zb v 68 (upd (upd (v 68) 0 0) 11 0)) w t) rfl ?_
  refine zk_T.cl (v := some (.int 0)) (h' := zH (zb v 68 (upd (upd (v 68) 0 0) 11 5)) w t) rfl (zs_misNot (v := (zb v 68 (upd (upd (v 68) 0 0) 11 0))) (w := w) 5) ?_
  show zk_T zk_mt zk_ex Ls xs zm_168 (45, [(0, .ref 69), (1, .int (nI e))], [.int 0]) (zH (zb v 68 (upd (upd (v 68) 0 0) 11 5)) w t) _
  exact zk_T.rt rfl rfl (by rfl)
/-- BasketKeepModel.mend -/
theorem zM_mend_f (e : Nat) (he : e < 5) (hg : zr_misX (v 68 14) (v 71 2) (nI e) = 1) (hla : ¬ v 75 e = v 71 (23 + 2 * e + 1)) (k : Nat) (hk : v 68 23 = nI k) (hk16 : k < 16) : zk_Cr zk_mt zk_ex Ls xs 168 [.ref 69, .int (nI e)] (zH v w t) (some (.int 1), zH (zb (zb (zb v 68 (upd (upd (upd (v 68) 0 0) 11 0) 23 (nI (k + 1)))) 75 (upd (v 75) e (v 71 ((23 + (2 * e)) + 1)))) 77 (zr_cpSu (v 75) (v 77) (16 * k))) w t) := by
  refine zk_Cr.of (K := zm_168) rfl rfl rfl ?_
  show zk_T zk_mt zk_ex Ls xs zm_168 (0, [(0, .ref 69), (1, .int (nI e))], []) (zH v w t) _
  refine zk_T.adv 1 (f' := (1, [(0, .ref 69), (1, .int (nI e))], [.ref 69])) (h' := zH v w t) rfl ?_
  refine zk_T.cl (v := none) (h' := zH (zb v 68 (upd (upd (v 68) 0 0) 11 0)) w t) rfl (zs_manew (v := v) (w := w)) ?_
  show zk_T zk_mt zk_ex Ls xs zm_168 (4, [(0, .ref 69), (1, .int (nI e))], []) (zH (zb v 68 (upd (upd (v 68) 0 0) 11 0)) w t) _
  refine zk_T.adv 2 (f' := (6, [(0, .ref 69), (1, .int (nI e))], [.int (nI e), .ref 69])) (h' := zH (zb v 68 (upd (upd (v 68) 0 0) 11 0)) w t) rfl ?_
  refine zk_T.cl (v := some (.int 1)) (h' := zH (zb v 68 (upd (upd (v 68) 0 0) 11 0)) w t) rfl (by have ee_ : zk_Cr zk_mt zk_ex Ls xs 118 [.ref 69, .int (nI e)] (zH (zb v 68 (upd (upd (v 68) 0 0) 11 0)) w t) (some (.int (zr_misX (v 68 14) (v 71 2) (nI e))), zH (zb v 68 (upd (upd (v 68) 0 0) 11 0)) w t) := zs_misMaker (v := (zb v 68 (upd (upd (v 68) 0 0) 11 0))) (w := w) (nI e); rw [show (zr_misX (v 68 14) (v 71 2) (nI e)) = 1 from hg] at ee_; exact ee_) ?_
  show zk_T zk_mt zk_ex Ls xs zm_168 (9, [(0, .ref 69), (1, .int (nI e))], [.int 1]) (zH (zb v 68 (upd (upd (v 68) 0 0) 11 0)) w t) _
  refine zk_T.br (f1 := (12, [(0, .ref 69), (1, .int (nI e))], [])) (f2 := (18, [(0, .ref 69), (1, .int (nI e))], [])) rfl (fun c1 => absurd (of_decide_eq_true c1) (by decide)) (fun c1 => ?_)
  refine zk_T.adv 3 (f' := (23, [(0, .ref 69), (1, .int (nI e))], [.int (nI e), .ref 76])) (h' := zH (zb v 68 (upd (upd (v 68) 0 0) 11 0)) w t) rfl ?_
  refine zk_T.ob (f' := (24, [(0, .ref 69), (1, .int (nI e))], [.int (v 75 (nI e).toNatClampNeg)])) (h' := zH (zb v 68 (upd (upd (v 68) 0 0) 11 0)) w t) rfl (by first | exact zk_inN (by omega) (by decide) | decide) ?_
  rw [nI_clamp (show e < 2 ^ 31 by omega)]
  refine zk_T.adv 6 (f' := (33, [(0, .ref 69), (1, .int (nI e))], [.int (2 * (nI e)), .int 23, .ref 72, .int (v 75 e)])) (h' := zH (zb v 68 (upd (upd (v 68) 0 0) 11 0)) w t) rfl ?_
  rw [show 2 * (nI e) = nI (2 * e) from pk_mul 2 e]
  refine zk_T.adv 1 (f' := (34, [(0, .ref 69), (1, .int (nI e))], [.int (23 + (nI (2 * e))), .ref 72, .int (v 75 e)])) (h' := zH (zb v 68 (upd (upd (v 68) 0 0) 11 0)) w t) rfl ?_
  rw [show 23 + (nI (2 * e)) = nI (23 + (2 * e)) from nI_add 23 (2 * e)]
  refine zk_T.adv 2 (f' := (36, [(0, .ref 69), (1, .int (nI e))], [.int ((nI (23 + (2 * e))) + 1), .ref 72, .int (v 75 e)])) (h' := zH (zb v 68 (upd (upd (v 68) 0 0) 11 0)) w t) rfl ?_
  rw [show (nI (23 + (2 * e))) + 1 = nI ((23 + (2 * e)) + 1) from nI_add (23 + (2 * e)) 1]
  refine zk_T.ob (f' := (37, [(0, .ref 69), (1, .int (nI e))], [.int (v 71 (nI ((23 + (2 * e)) + 1)).toNatClampNeg), .int (v 75 e)])) (h' := zH (zb v 68 (upd (upd (v 68) 0 0) 11 0)) w t) rfl (by first | exact zk_inN (by omega) (by decide) | decide) ?_
  rw [nI_clamp (show ((23 + (2 * e)) + 1) < 2 ^ 31 by omega)]
  refine zk_T.br (f1 := (40, [(0, .ref 69), (1, .int (nI e))], [])) (f2 := (46, [(0, .ref 69), (1, .int (nI e))], [])) rfl (fun c2 => absurd (of_decide_eq_true c2) hla) (fun c2 => ?_)
  refine zk_T.adv 1 (f' := (47, [(0, .ref 69), (1, .int (nI e))], [.ref 69])) (h' := zH (zb v 68 (upd (upd (v 68) 0 0) 11 0)) w t) rfl ?_
  refine zk_T.cl (v := none) (h' := zH (zb (zb v 68 (upd (upd (upd (v 68) 0 0) 11 0) 23 (nI (k + 1)))) 77 (zr_cpSu (v 75) (v 77) (16 * k))) w t) rfl (zs_mnote_f (v := (zb v 68 (upd (upd (v 68) 0 0) 11 0))) (w := w) k hk hk16) ?_
  show zk_T zk_mt zk_ex Ls xs zm_168 (50, [(0, .ref 69), (1, .int (nI e))], []) (zH (zb (zb v 68 (upd (upd (upd (v 68) 0 0) 11 0) 23 (nI (k + 1)))) 77 (zr_cpSu (v 75) (v 77) (16 * k))) w t) _
  refine zk_T.adv 9 (f' := (64, [(0, .ref 69), (1, .int (nI e))], [.int (2 * (nI e)), .int 23, .ref 72, .int (nI e), .ref 76])) (h' := zH (zb (zb v 68 (upd (upd (upd (v 68) 0 0) 11 0) 23 (nI (k + 1)))) 77 (zr_cpSu (v 75) (v 77) (16 * k))) w t) rfl ?_
  rw [show 2 * (nI e) = nI (2 * e) from pk_mul 2 e]
  refine zk_T.adv 1 (f' := (65, [(0, .ref 69), (1, .int (nI e))], [.int (23 + (nI (2 * e))), .ref 72, .int (nI e), .ref 76])) (h' := zH (zb (zb v 68 (upd (upd (upd (v 68) 0 0) 11 0) 23 (nI (k + 1)))) 77 (zr_cpSu (v 75) (v 77) (16 * k))) w t) rfl ?_
  rw [show 23 + (nI (2 * e)) = nI (23 + (2 * e)) from nI_add 23 (2 * e)]
  refine zk_T.adv 2 (f' := (67, [(0, .ref 69), (1, .int (nI e))], [.int ((nI (23 + (2 * e))) + 1), .ref 72, .int (nI e), .ref 76])) (h' := zH (zb (zb v 68 (upd (upd (upd (v 68) 0 0) 11 0) 23 (nI (k + 1)))) 77 (zr_cpSu (v 75) (v 77) (16 * k))) w t) rfl ?_
  rw [show (nI (23 + (2 * e))) + 1 = nI ((23 + (2 * e)) + 1) from nI_add (23 + (2 * e)) 1]
  refine zk_T.ob (f' := (68, [(0, .ref 69), (1, .int (nI e))], [.int (v 71 (nI ((23 + (2 * e)) + 1)).toNatClampNeg), .int (nI e), .ref 76])) (h' := zH (zb (zb v 68 (upd (upd (upd (v 68) 0 0) 11 0) 23 (nI (k + 1)))) 77 (zr_cpSu (v 75) (v 77) (16 * k))) w t) rfl (by first | exact zk_inN (by omega) (by decide) | decide) ?_
  rw [nI_clamp (show ((23 + (2 * e)) + 1) < 2 ^ 31 by omega)]
  refine zk_T.ob (f' := (69, [(0, .ref 69), (1, .int (nI e))], [])) (h' := zH (zb (zb (zb v 68 (upd (upd (upd (v 68) 0 0) 11 0) 23 (nI (k + 1)))) 75 (upd (v 75) (nI e).toNatClampNeg (v 71 ((23 + (2 * e)) + 1)))) 77 (zr_cpSu (v 75) (v 77) (16 * k))) w t) rfl (by first | exact zk_inN (by omega) (by decide) | decide) ?_
  rw [nI_clamp (show e < 2 ^ 31 by omega)]
  refine zk_T.adv 1 (f' := (70, [(0, .ref 69), (1, .int (nI e))], [.int 1])) (h' := zH (zb (zb (zb v 68 (upd (upd (upd (v 68) 0 0) 11 0) 23 (nI (k + 1)))) 75 (upd (v 75) e (v 71 ((23 + (2 * e)) + 1)))) 77 (zr_cpSu (v 75) (v 77) (16 * k))) w t) rfl ?_
  exact zk_T.rt rfl rfl (by rfl)
set_option maxRecDepth 20000 in
/-- BasketKeepModel.mend -/
theorem zM_mend_g (e : Nat) (he : e < 5) (hg : zr_misX (v 68 14) (v 71 2) (nI e) = 1) (hla : ¬ v 75 e = v 71 (23 + 2 * e + 1)) (hk : v 68 23 = 16) : zk_Cr zk_mt zk_ex Ls xs 168 [.ref 69, .int (nI e)] (zH v w t) (some (.int 1), zH (zb (zb (zb v 68 (upd (upd (upd (v 68) 0 0) 11 0) 23 16)) 75 (upd (v 75) e (v 71 ((23 + (2 * e)) + 1)))) 77 (zr_cpSu (v 75) (zf zl_mnoteG 240 0 (v 77)) 240)) w t) := by
  refine zk_Cr.of (K := zm_168) rfl rfl rfl ?_
  show zk_T zk_mt zk_ex Ls xs zm_168 (0, [(0, .ref 69), (1, .int (nI e))], []) (zH v w t) _
  refine zk_T.adv 1 (f' := (1, [(0, .ref 69), (1, .int (nI e))], [.ref 69])) (h' := zH v w t) rfl ?_
  refine zk_T.cl (v := none) (h' := zH (zb v 68 (upd (upd (v 68) 0 0) 11 0)) w t) rfl (zs_manew (v := v) (w := w)) ?_
  show zk_T zk_mt zk_ex Ls xs zm_168 (4, [(0, .ref 69), (1, .int (nI e))], []) (zH (zb v 68 (upd (upd (v 68) 0 0) 11 0)) w t) _
  refine zk_T.adv 2 (f' := (6, [(0, .ref 69), (1, .int (nI e))], [.int (nI e), .ref 69])) (h' := zH (zb v 68 (upd (upd (v 68) 0 0) 11 0)) w t) rfl ?_
  refine zk_T.cl (v := some (.int 1)) (h' := zH (zb v 68 (upd (upd (v 68) 0 0) 11 0)) w t) rfl (by have ee_ : zk_Cr zk_mt zk_ex Ls xs 118 [.ref 69, .int (nI e)] (zH (zb v 68 (upd (upd (v 68) 0 0) 11 0)) w t) (some (.int (zr_misX (v 68 14) (v 71 2) (nI e))), zH (zb v 68 (upd (upd (v 68) 0 0) 11 0)) w t) := zs_misMaker (v := (zb v 68 (upd (upd (v 68) 0 0) 11 0))) (w := w) (nI e); rw [show (zr_misX (v 68 14) (v 71 2) (nI e)) = 1 from hg] at ee_; exact ee_) ?_
  show zk_T zk_mt zk_ex Ls xs zm_168 (9, [(0, .ref 69), (1, .int (nI e))], [.int 1]) (zH (zb v 68 (upd (upd (v 68) 0 0) 11 0)) w t) _
  refine zk_T.br (f1 := (12, [(0, .ref 69), (1, .int (nI e))], [])) (f2 := (18, [(0, .ref 69), (1, .int (nI e))], [])) rfl (fun c1 => absurd (of_decide_eq_true c1) (by decide)) (fun c1 => ?_)
  refine zk_T.adv 3 (f' := (23, [(0, .ref 69), (1, .int (nI e))], [.int (nI e), .ref 76])) (h' := zH (zb v 68 (upd (upd (v 68) 0 0) 11 0)) w t) rfl ?_
  refine zk_T.ob (f' := (24, [(0, .ref 69), (1, .int (nI e))], [.int (v 75 (nI e).toNatClampNeg)])) (h' := zH (zb v 68 (upd (upd (v 68) 0 0) 11 0)) w t) rfl (by first | exact zk_inN (by omega) (by decide) | decide) ?_
  rw [nI_clamp (show e < 2 ^ 31 by omega)]
  refine zk_T.adv 6 (f' := (33, [(0, .ref 69), (1, .int (nI e))], [.int (2 * (nI e)), .int 23, .ref 72, .int (v 75 e)])) (h' := zH (zb v 68 (upd (upd (v 68) 0 0) 11 0)) w t) rfl ?_
  rw [show 2 * (nI e) = nI (2 * e) from pk_mul 2 e]
  refine zk_T.adv 1 (f' := (34, [(0, .ref 69), (1, .int (nI e))], [.int (23 + (nI (2 * e))), .ref 72, .int (v 75 e)])) (h' := zH (zb v 68 (upd (upd (v 68) 0 0) 11 0)) w t) rfl ?_
  rw [show 23 + (nI (2 * e)) = nI (23 + (2 * e)) from nI_add 23 (2 * e)]
  refine zk_T.adv 2 (f' := (36, [(0, .ref 69), (1, .int (nI e))], [.int ((nI (23 + (2 * e))) + 1), .ref 72, .int (v 75 e)])) (h' := zH (zb v 68 (upd (upd (v 68) 0 0) 11 0)) w t) rfl ?_
  rw [show (nI (23 + (2 * e))) + 1 = nI ((23 + (2 * e)) + 1) from nI_add (23 + (2 * e)) 1]
  refine zk_T.ob (f' := (37, [(0, .ref 69), (1, .int (nI e))], [.int (v 71 (nI ((23 + (2 * e)) + 1)).toNatClampNeg), .int (v 75 e)])) (h' := zH (zb v 68 (upd (upd (v 68) 0 0) 11 0)) w t) rfl (by first | exact zk_inN (by omega) (by decide) | decide) ?_
  rw [nI_clamp (show ((23 + (2 * e)) + 1) < 2 ^ 31 by omega)]
  refine zk_T.br (f1 := (40, [(0, .ref 69), (1, .int (nI e))], [])) (f2 := (46, [(0, .ref 69), (1, .int (nI e))], [])) rfl (fun c2 => absurd (of_decide_eq_true c2) hla) (fun c2 => ?_)
  refine zk_T.adv 1 (f' := (47, [(0, .ref 69), (1, .int (nI e))], [.ref 69])) (h' := zH (zb v 68 (upd (upd (v 68) 0 0) 11 0)) w t) rfl ?_
  refine zk_T.cl (v := none) (h' := zH (zb (zb v 68 (upd (upd (upd (v 68) 0 0) 11 0) 23 16)) 77 (zr_cpSu (v 75) (zf zl_mnoteG 240 0 (v 77)) 240)) w t) rfl (zs_mnote_16 (v := (zb v 68 (upd (upd (v 68) 0 0) 11 0))) (w := w) hk) ?_
  show zk_T zk_mt zk_ex Ls xs zm_168 (50, [(0, .ref 69), (1, .int (nI e))], []) (zH (zb (zb v 68 (upd (upd (upd (v 68) 0 0) 11 0) 23 16)) 77 (zr_cpSu (v 75) (zf zl_mnoteG 240 0 (v 77)) 240)) w t) _
  refine zk_T.adv 9 (f' := (64, [(0, .ref 69), (1, .int (nI e))], [.int (2 * (nI e)), .int 23, .ref 72, .int (nI e), .ref 76])) (h' := zH (zb (zb v 68 (upd (upd (upd (v 68) 0 0) 11 0) 23 16)) 77 (zr_cpSu (v 75) (zf zl_mnoteG 240 0 (v 77)) 240)) w t) rfl ?_
  rw [show 2 * (nI e) = nI (2 * e) from pk_mul 2 e]
  refine zk_T.adv 1 (f' := (65, [(0, .ref 69), (1, .int (nI e))], [.int (23 + (nI (2 * e))), .ref 72, .int (nI e), .ref 76])) (h' := zH (zb (zb v 68 (upd (upd (upd (v 68) 0 0) 11 0) 23 16)) 77 (zr_cpSu (v 75) (zf zl_mnoteG 240 0 (v 77)) 240)) w t) rfl ?_
  rw [show 23 + (nI (2 * e)) = nI (23 + (2 * e)) from nI_add 23 (2 * e)]
  refine zk_T.adv 2 (f' := (67, [(0, .ref 69), (1, .int (nI e))], [.int ((nI (23 + (2 * e))) + 1), .ref 72, .int (nI e), .ref 76])) (h' := zH (zb (zb v 68 (upd (upd (upd (v 68) 0 0) 11 0) 23 16)) 77 (zr_cpSu (v 75) (zf zl_mnoteG 240 0 (v 77)) 240)) w t) rfl ?_
  rw [show (nI (23 + (2 * e))) + 1 = nI ((23 + (2 * e)) + 1) from nI_add (23 + (2 * e)) 1]
  refine zk_T.ob (f' := (68, [(0, .ref 69), (1, .int (nI e))], [.int (v 71 (nI ((23 + (2 * e)) + 1)).toNatClampNeg), .int (nI e), .ref 76])) (h' := zH (zb (zb v 68 (upd (upd (upd (v 68) 0 0) 11 0) 23 16)) 77 (zr_cpSu (v 75) (zf zl_mnoteG 240 0 (v 77)) 240)) w t) rfl (by first | exact zk_inN (by omega) (by decide) | decide) ?_
  rw [nI_clamp (show ((23 + (2 * e)) + 1) < 2 ^ 31 by omega)]
  refine zk_T.ob (f' := (69, [(0, .ref 69), (1, .int (nI e))], [])) (h' := zH (zb (zb (zb v 68 (upd (upd (upd (v 68) 0 0) 11 0) 23 16)) 75 (upd (v 75) (nI e).toNatClampNeg (v 71 ((23 + (2 * e)) + 1)))) 77 (zr_cpSu (v 75) (zf zl_mnoteG 240 0 (v 77)) 240)) w t) rfl (by first | exact zk_inN (by omega) (by decide) | decide) ?_
  rw [nI_clamp (show e < 2 ^ 31 by omega)]
  refine zk_T.adv 1 (f' := (70, [(0, .ref 69), (1, .int (nI e))], [.int 1])) (h' := zH (zb (zb (zb v 68 (upd (upd (upd (v 68) 0 0) 11 0) 23 16)) 75 (upd (v 75) e (v 71 ((23 + (2 * e)) + 1)))) 77 (zr_cpSu (v 75) (zf zl_mnoteG 240 0 (v 77)) 240)) w t) rfl ?_
  exact zk_T.rt rfl rfl (by rfl)
/-- BasketKeepModel.undo -/
theorem zM_undo_0 (hk : v 68 23 = 0) : zk_Cr zk_mt zk_ex Ls xs 130 [.ref 69] (zH v w t) (some (.int 0), zH (zb v 68 (upd (upd (v 68) 0 0) 11 6)) w t) := by
  refine zk_Cr.of (K := zm_130) rfl rfl rfl ?_
  show zk_T zk_mt zk_ex Ls xs zm_130 (0, [(0, .ref 69)], []) (zH v w t) _
  refine zk_T.adv 1 (f' := (1, [(0, .ref 69)], [.ref 69])) (h' := zH v w t) rfl ?_
  refine zk_T.cl (v := none) (h' := zH (zb v 68 (upd (upd (v 68) 0 0) 11 0)) w t) rfl (zs_manew (v := v) (w := w)) ?_
  show zk_T zk_mt zk_ex Ls xs zm_130 (4, [(0, .ref 69)], []) (zH (zb v 68 (upd (upd (v 68) 0 0) 11 0)) w t) _
  refine zk_T.adv 2 (f' := (8, [(0, .ref 69)], [.int (v 68 23)])) (h' := zH (zb v 68 (upd (upd (v 68) 0 0) 11 0)) w t) rfl ?_
  rw [show (v 68 23) = 0 from hk]
  refine zk_T.br (f1 := (11, [(0, .ref 69)], [])) (f2 := (18, [(0, .ref 69)], [])) rfl (fun c1 => ?_) (fun c1 => absurd (by decide) (of_decide_eq_false c1))
  refine zk_T.adv 2 (f' := (14, [(0, .ref 69)], [.int 6, .ref 69])) (h' := zH (zb v 68 (upd (upd (v 68) 0 0) 11 0)) w t) rfl ?_
  refine zk_T.cl (v := some (.int 0)) (h' := zH (zb v 68 (upd (upd (v 68) 0 0) 11 6)) w t) rfl (zs_misNot (v := (zb v 68 (upd (upd (v 68) 0 0) 11 0))) (w := w) 6) ?_
  show zk_T zk_mt zk_ex Ls xs zm_130 (17, [(0, .ref 69)], [.int 0]) (zH (zb v 68 (upd (upd (v 68) 0 0) 11 6)) w t) _
  exact zk_T.rt rfl rfl (by rfl)
/-- BasketKeepModel.undo -/
theorem zM_undo_s (k : Nat) (hk : v 68 23 = nI (k + 1)) (hk16 : k < 16) : zk_Cr zk_mt zk_ex Ls xs 130 [.ref 69] (zH v w t) (some (.int 1), zH (zb (zb v 68 (upd (upd (upd (v 68) 0 0) 11 0) 23 (nI k))) 75 (zr_cpUs (v 77) (v 75) (16 * k))) w t) := by
  refine zk_Cr.of (K := zm_130) rfl rfl rfl ?_
  show zk_T zk_mt zk_ex Ls xs zm_130 (0, [(0, .ref 69)], []) (zH v w t) _
  refine zk_T.adv 1 (f' := (1, [(0, .ref 69)], [.ref 69])) (h' := zH v w t) rfl ?_
  refine zk_T.cl (v := none) (h' := zH (zb v 68 (upd (upd (v 68) 0 0) 11 0)) w t) rfl (zs_manew (v := v) (w := w)) ?_
  show zk_T zk_mt zk_ex Ls xs zm_130 (4, [(0, .ref 69)], []) (zH (zb v 68 (upd (upd (v 68) 0 0) 11 0)) w t) _
  refine zk_T.adv 2 (f' := (8, [(0, .ref 69)], [.int (v 68 23)])) (h' := zH (zb v 68 (upd (upd (v 68) 0 0) 11 0)) w t) rfl ?_
  rw [show (v 68 23) = nI (k + 1) from hk]
  refine zk_T.br (f1 := (11, [(0, .ref 69)], [])) (f2 := (18, [(0, .ref 69)], [])) rfl (fun c1 => absurd (of_decide_eq_true c1) (nI_ne0 (by omega) (by omega))) (fun c1 => ?_)
  refine zk_T.adv 3 (f' := (23, [(0, .ref 69)], [.int (v 68 23), .ref 69])) (h' := zH (zb v 68 (upd (upd (v 68) 0 0) 11 0)) w t) rfl ?_
  rw [show (v 68 23) = nI (k + 1) from hk]
  refine zk_T.adv 2 (f' := (25, [(0, .ref 69)], [.int ((nI (k + 1)) - 1), .ref 69])) (h' := zH (zb v 68 (upd (upd (v 68) 0 0) 11 0)) w t) rfl ?_
  rw [show (nI (k + 1)) - 1 = nI k from nI_pred k]
  refine zk_T.adv 7 (f' := (39, [(0, .ref 69)], [.int (16 * (nI k)), .ref 78])) (h' := zH (zb v 68 (upd (upd (upd (v 68) 0 0) 11 0) 23 (nI k))) w t) rfl ?_
  rw [show 16 * (nI k) = nI (16 * k) from pk_mul 16 k]
  refine zk_T.adv 4 (f' := (46, [(0, .ref 69)], [.int 16, .int 0, .ref 76, .int (nI (16 * k)), .ref 78])) (h' := zH (zb v 68 (upd (upd (upd (v 68) 0 0) 11 0) 23 (nI k))) w t) rfl ?_
  refine zk_T.cl (v := none) (h' := zH (zb (zb v 68 (upd (upd (upd (v 68) 0 0) 11 0) 23 (nI k))) 75 (zr_cpUs (v 77) (v 75) (16 * k))) w t) rfl (zs_cpUs (v := (zb v 68 (upd (upd (upd (v 68) 0 0) 11 0) 23 (nI k)))) (w := w) (16 * k) (by omega)) ?_
  show zk_T zk_mt zk_ex Ls xs zm_130 (49, [(0, .ref 69)], []) (zH (zb (zb v 68 (upd (upd (upd (v 68) 0 0) 11 0) 23 (nI k))) 75 (zr_cpUs (v 77) (v 75) (16 * k))) w t) _
  refine zk_T.adv 1 (f' := (50, [(0, .ref 69)], [.int 1])) (h' := zH (zb (zb v 68 (upd (upd (upd (v 68) 0 0) 11 0) 23 (nI k))) 75 (zr_cpUs (v 77) (v 75) (16 * k))) w t) rfl ?_
  exact zk_T.rt rfl rfl (by rfl)
/-- BasketKeepModel.image -/
theorem zM_image_t (hst : v 68 14 = 0) : zk_Cr zk_mt zk_ex Ls xs 115 [.ref 69] (zH v w t) (some (.int (-1)), zH (zb v 68 (upd (upd (v 68) 0 0) 11 1)) w t) := by
  refine zk_Cr.of (K := zm_115) rfl rfl rfl ?_
  show zk_T zk_mt zk_ex Ls xs zm_115 (0, [(0, .ref 69)], []) (zH v w t) _
  refine zk_T.adv 1 (f' := (1, [(0, .ref 69)], [.ref 69])) (h' := zH v w t) rfl ?_
  refine zk_T.cl (v := none) (h' := zH (zb v 68 (upd (upd (v 68) 0 0) 11 0)) w t) rfl (zs_manew (v := v) (w := w)) ?_
  show zk_T zk_mt zk_ex Ls xs zm_115 (4, [(0, .ref 69)], []) (zH (zb v 68 (upd (upd (v 68) 0 0) 11 0)) w t) _
  refine zk_T.adv 2 (f' := (8, [(0, .ref 69)], [.int (v 68 14)])) (h' := zH (zb v 68 (upd (upd (v 68) 0 0) 11 0)) w t) rfl ?_
  rw [show (v 68 14) = 0 from hst]
  refine zk_T.br (f1 := (11, [(0, .ref 69)], [])) (f2 := (17, [(0, .ref 69)], [])) rfl (fun c1 => ?_) (fun c1 => absurd (by decide) (of_decide_eq_false c1))
  refine zk_T.adv 2 (f' := (13, [(0, .ref 69)], [.int 1, .ref 69])) (h' := zH (zb v 68 (upd (upd (v 68) 0 0) 11 0)) w t) rfl ?_
  refine zk_T.cl (v := some (.int (-1))) (h' := zH (zb v 68 (upd (upd (v 68) 0 0) 11 1)) w t) rfl (zs_mno (v := (zb v 68 (upd (upd (v 68) 0 0) 11 0))) (w := w) 1) ?_
  show zk_T zk_mt zk_ex Ls xs zm_115 (16, [(0, .ref 69)], [.int (-1)]) (zH (zb v 68 (upd (upd (v 68) 0 0) 11 1)) w t) _
  exact zk_T.rt rfl rfl (by rfl)
/-- BasketKeepModel.image -/
theorem zM_image_3 (hst : v 68 14 = 1) (hi : v 68 24 = 3) : zk_Cr zk_mt zk_ex Ls xs 115 [.ref 69] (zH v w t) (some (.int (-1)), zH (zb v 68 (upd (upd (v 68) 0 0) 11 3)) w t) := by
  refine zk_Cr.of (K := zm_115) rfl rfl rfl ?_
  show zk_T zk_mt zk_ex Ls xs zm_115 (0, [(0, .ref 69)], []) (zH v w t) _
  refine zk_T.adv 1 (f' := (1, [(0, .ref 69)], [.ref 69])) (h' := zH v w t) rfl ?_
  refine zk_T.cl (v := none) (h' := zH (zb v 68 (upd (upd (v 68) 0 0) 11 0)) w t) rfl (zs_manew (v := v) (w := w)) ?_
  show zk_T zk_mt zk_ex Ls xs zm_115 (4, [(0, .ref 69)], []) (zH (zb v 68 (upd (upd (v 68) 0 0) 11 0)) w t) _
  refine zk_T.adv 2 (f' := (8, [(0, .ref 69)], [.int (v 68 14)])) (h' := zH (zb v 68 (upd (upd (v 68) 0 0) 11 0)) w t) rfl ?_
  rw [show (v 68 14) = 1 from hst]
  refine zk_T.br (f1 := (11, [(0, .ref 69)], [])) (f2 := (17, [(0, .ref 69)], [])) rfl (fun c1 => absurd (of_decide_eq_true c1) (by decide)) (fun c1 => ?_)
  refine zk_T.adv 2 (f' := (21, [(0, .ref 69)], [.int (v 68 24)])) (h' := zH (zb v 68 (upd (upd (v 68) 0 0) 11 0)) w t) rfl ?_
  rw [show (v 68 24) = 3 from hi]
  refine zk_T.adv 1 (f' := (22, [(0, .ref 69)], [.int 3, .int 3])) (h' := zH (zb v 68 (upd (upd (v 68) 0 0) 11 0)) w t) rfl ?_
  refine zk_T.br (f1 := (25, [(0, .ref 69)], [])) (f2 := (31, [(0, .ref 69)], [])) rfl (fun c2 => ?_) (fun c2 => absurd (by decide) (of_decide_eq_false c2))
  refine zk_T.adv 2 (f' := (27, [(0, .ref 69)], [.int 3, .ref 69])) (h' := zH (zb v 68 (upd (upd (v 68) 0 0) 11 0)) w t) rfl ?_
  refine zk_T.cl (v := some (.int (-1))) (h' := zH (zb v 68 (upd (upd (v 68) 0 0) 11 3)) w t) rfl (zs_mno (v := (zb v 68 (upd (upd (v 68) 0 0) 11 0))) (w := w) 3) ?_
  show zk_T zk_mt zk_ex Ls xs zm_115 (30, [(0, .ref 69)], [.int (-1)]) (zH (zb v 68 (upd (upd (v 68) 0 0) 11 3)) w t) _
  exact zk_T.rt rfl rfl (by rfl)
/-- BasketKeepModel.image -/
theorem zM_image_f (hst : v 68 14 = 1) (i : Nat) (hi : v 68 24 = nI i) (hi3 : i < 3) : zk_Cr zk_mt zk_ex Ls xs 115 [.ref 69] (zH v w t) (some (.int (nI i)), zH (zb (zb v 68 (upd (upd (upd (v 68) 0 0) 11 0) 24 (nI (i + 1)))) 78 (zr_cpSk (v 75) (v 78) (16 * i))) w t) := by
  refine zk_Cr.of (K := zm_115) rfl rfl rfl ?_
  show zk_T zk_mt zk_ex Ls xs zm_115 (0, [(0, .ref 69)], []) (zH v w t) _
  refine zk_T.adv 1 (f' := (1, [(0, .ref 69)], [.ref 69])) (h' := zH v w t) rfl ?_
  refine zk_T.cl (v := none) (h' := zH (zb v 68 (upd (upd (v 68) 0 0) 11 0)) w t) rfl (zs_manew (v := v) (w := w)) ?_
  show zk_T zk_mt zk_ex Ls xs zm_115 (4, [(0, .ref 69)], []) (zH (zb v 68 (upd (upd (v 68) 0 0) 11 0)) w t) _
  refine zk_T.adv 2 (f' := (8, [(0, .ref 69)], [.int (v 68 14)])) (h' := zH (zb v 68 (upd (upd (v 68) 0 0) 11 0)) w t) rfl ?_
  rw [show (v 68 14) = 1 from hst]
  refine zk_T.br (f1 := (11, [(0, .ref 69)], [])) (f2 := (17, [(0, .ref 69)], [])) rfl (fun c1 => absurd (of_decide_eq_true c1) (by decide)) (fun c1 => ?_)
  refine zk_T.adv 2 (f' := (21, [(0, .ref 69)], [.int (v 68 24)])) (h' := zH (zb v 68 (upd (upd (v 68) 0 0) 11 0)) w t) rfl ?_
  rw [show (v 68 24) = nI i from hi]
  refine zk_T.adv 1 (f' := (22, [(0, .ref 69)], [.int 3, .int (nI i)])) (h' := zH (zb v 68 (upd (upd (v 68) 0 0) 11 0)) w t) rfl ?_
  refine zk_T.br (f1 := (25, [(0, .ref 69)], [])) (f2 := (31, [(0, .ref 69)], [])) rfl (fun c2 => absurd (of_decide_eq_true c2) (fun z => absurd ((nI_eq (show i < 2 ^ 31 by omega) (show 3 < 2 ^ 31 by decide)).mp z) (by omega))) (fun c2 => ?_)
  refine zk_T.adv 8 (f' := (46, [(0, .ref 69)], [.int (v 68 24), .int 16, .ref 79, .int 0, .ref 76])) (h' := zH (zb v 68 (upd (upd (v 68) 0 0) 11 0)) w t) rfl ?_
  rw [show (v 68 24) = nI i from hi]
  refine zk_T.adv 1 (f' := (47, [(0, .ref 69)], [.int (16 * (nI i)), .ref 79, .int 0, .ref 76])) (h' := zH (zb v 68 (upd (upd (v 68) 0 0) 11 0)) w t) rfl ?_
  rw [show 16 * (nI i) = nI (16 * i) from pk_mul 16 i]
  refine zk_T.adv 1 (f' := (49, [(0, .ref 69)], [.int 16, .int (nI (16 * i)), .ref 79, .int 0, .ref 76])) (h' := zH (zb v 68 (upd (upd (v 68) 0 0) 11 0)) w t) rfl ?_
  refine zk_T.cl (v := none) (h' := zH (zb (zb v 68 (upd (upd (v 68) 0 0) 11 0)) 78 (zr_cpSk (v 75) (v 78) (16 * i))) w t) rfl (zs_cpSk (v := (zb v 68 (upd (upd (v 68) 0 0) 11 0))) (w := w) (16 * i) (by omega)) ?_
  show zk_T zk_mt zk_ex Ls xs zm_115 (52, [(0, .ref 69)], []) (zH (zb (zb v 68 (upd (upd (v 68) 0 0) 11 0)) 78 (zr_cpSk (v 75) (v 78) (16 * i))) w t) _
  refine zk_T.adv 3 (f' := (57, [(0, .ref 69)], [.int (v 68 24), .ref 69])) (h' := zH (zb (zb v 68 (upd (upd (v 68) 0 0) 11 0)) 78 (zr_cpSk (v 75) (v 78) (16 * i))) w t) rfl ?_
  rw [show (v 68 24) = nI i from hi]
  refine zk_T.adv 2 (f' := (59, [(0, .ref 69)], [.int ((nI i) + 1), .ref 69])) (h' := zH (zb (zb v 68 (upd (upd (v 68) 0 0) 11 0)) 78 (zr_cpSk (v 75) (v 78) (16 * i))) w t) rfl ?_
  rw [show (nI i) + 1 = nI (i + 1) from nI_add i 1]
  refine zk_T.adv 5 (f' := (68, [(0, .ref 69)], [.int ((nI (i + 1)) - 1)])) (h' := zH (zb (zb v 68 (upd (upd (upd (v 68) 0 0) 11 0) 24 (nI (i + 1)))) 78 (zr_cpSk (v 75) (v 78) (16 * i))) w t) rfl ?_
  rw [show (nI (i + 1)) - 1 = nI i from nI_pred i]
  exact zk_T.rt rfl rfl (by rfl)
/-- BasketKeepModel.back -/
theorem zM_back_t (x : Int32) (hw : zr_mwithin x 0 ((v 68 24) - 1) = 0) : zk_Cr zk_mt zk_ex Ls xs 109 [.ref 69, .int x] (zH v w t) (some (.int 0), zH (zb v 68 (upd (upd (v 68) 0 0) 11 1)) w t) := by
  refine zk_Cr.of (K := zm_109) rfl rfl rfl ?_
  show zk_T zk_mt zk_ex Ls xs zm_109 (0, [(0, .ref 69), (1, .int x)], []) (zH v w t) _
  refine zk_T.adv 1 (f' := (1, [(0, .ref 69), (1, .int x)], [.ref 69])) (h' := zH v w t) rfl ?_
  refine zk_T.cl (v := none) (h' := zH (zb v 68 (upd (upd (v 68) 0 0) 11 0)) w t) rfl (zs_manew (v := v) (w := w)) ?_
  show zk_T zk_mt zk_ex Ls xs zm_109 (4, [(0, .ref 69), (1, .int x)], []) (zH (zb v 68 (upd (upd (v 68) 0 0) 11 0)) w t) _
  refine zk_T.adv 6 (f' := (12, [(0, .ref 69), (1, .int x)], [.int ((v 68 24) - 1), .int 0, .int x])) (h' := zH (zb v 68 (upd (upd (v 68) 0 0) 11 0)) w t) rfl ?_
  refine zk_T.cl (v := some (.int 0)) (h' := zH (zb v 68 (upd (upd (v 68) 0 0) 11 0)) w t) rfl (by have ee_ : zk_Cr zk_mt zk_ex Ls xs 67 [.int x, .int 0, .int ((v 68 24) - 1)] (zH (zb v 68 (upd (upd (v 68) 0 0) 11 0)) w t) (some (.int (zr_mwithin x 0 ((v 68 24) - 1))), zH (zb v 68 (upd (upd (v 68) 0 0) 11 0)) w t) := zs_mwithin (v := (zb v 68 (upd (upd (v 68) 0 0) 11 0))) (w := w) x 0 ((v 68 24) - 1); rw [show (zr_mwithin x 0 ((v 68 24) - 1)) = 0 from hw] at ee_; exact ee_) ?_
  show zk_T zk_mt zk_ex Ls xs zm_109 (15, [(0, .ref 69), (1, .int x)], [.int 0]) (zH (zb v 68 (upd (upd (v 68) 0 0) 11 0)) w t) _
  refine zk_T.br (f1 := (18, [(0, .ref 69), (1, .int x)], [])) (f2 := (24, [(0, .ref 69), (1, .int x)], [])) rfl (fun c1 => ?_) (fun c1 => absurd (by decide) (of_decide_eq_false c1))
  refine zk_T.adv 2 (f' := (20, [(0, .ref 69), (1, .int x)], [.int 1, .ref 69])) (h' := zH (zb v 68 (upd (upd (v 68) 0 0) 11 0)) w t) rfl ?_
  refine zk_T.cl (v := some (.int 0)) (h' := zH (zb v 68 (upd (upd (v 68) 0 0) 11 1)) w t) rfl (zs_misNot (v := (zb v 68 (upd (upd (v 68) 0 0) 11 0))) (w := w) 1) ?_
  show zk_T zk_mt zk_ex Ls xs zm_109 (23, [(0, .ref 69), (1, .int x)], [.int 0]) (zH (zb v 68 (upd (upd (v 68) 0 0) 11 1)) w t) _
  exact zk_T.rt rfl rfl (by rfl)
/-- BasketKeepModel.back -/
theorem zM_back_f (j : Nat) (hj : j < 3) (hw : zr_mwithin (nI j) 0 ((v 68 24) - 1) = 1) : zk_Cr zk_mt zk_ex Ls xs 109 [.ref 69, .int (nI j)] (zH v w t) (some (.int 1), zH (zb (zb v 68 (upd (upd (upd (v 68) 0 0) 11 0) 23 0)) 75 (zr_cpKs (v 78) (v 75) (16 * j))) w t) := by
  refine zk_Cr.of (K := zm_109) rfl rfl rfl ?_
  show zk_T zk_mt zk_ex Ls xs zm_109 (0, [(0, .ref 69), (1, .int (nI j))], []) (zH v w t) _
  refine zk_T.adv 1 (f' := (1, [(0, .ref 69), (1, .int (nI j))], [.ref 69])) (h' := zH v w t) rfl ?_
  refine zk_T.cl (v := none) (h' := zH (zb v 68 (upd (upd (v 68) 0 0) 11 0)) w t) rfl (zs_manew (v := v) (w := w)) ?_
  show zk_T zk_mt zk_ex Ls xs zm_109 (4, [(0, .ref 69), (1, .int (nI j))], []) (zH (zb v 68 (upd (upd (v 68) 0 0) 11 0)) w t) _
  refine zk_T.adv 6 (f' := (12, [(0, .ref 69), (1, .int (nI j))], [.int ((v 68 24) - 1), .int 0, .int (nI j)])) (h' := zH (zb v 68 (upd (upd (v 68) 0 0) 11 0)) w t) rfl ?_
  refine zk_T.cl (v := some (.int 1)) (h' := zH (zb v 68 (upd (upd (v 68) 0 0) 11 0)) w t) rfl (by have ee_ : zk_Cr zk_mt zk_ex Ls xs 67 [.int (nI j), .int 0, .int ((v 68 24) - 1)] (zH (zb v 68 (upd (upd (v 68) 0 0) 11 0)) w t) (some (.int (zr_mwithin (nI j) 0 ((v 68 24) - 1))), zH (zb v 68 (upd (upd (v 68) 0 0) 11 0)) w t) := zs_mwithin (v := (zb v 68 (upd (upd (v 68) 0 0) 11 0))) (w := w) (nI j) 0 ((v 68 24) - 1); rw [show (zr_mwithin (nI j) 0 ((v 68 24) - 1)) = 1 from hw] at ee_; exact ee_) ?_
  show zk_T zk_mt zk_ex Ls xs zm_109 (15, [(0, .ref 69), (1, .int (nI j))], [.int 1]) (zH (zb v 68 (upd (upd (v 68) 0 0) 11 0)) w t) _
  refine zk_T.br (f1 := (18, [(0, .ref 69), (1, .int (nI j))], [])) (f2 := (24, [(0, .ref 69), (1, .int (nI j))], [])) rfl (fun c1 => absurd (of_decide_eq_true c1) (by decide)) (fun c1 => ?_)
  refine zk_T.adv 5 (f' := (32, [(0, .ref 69), (1, .int (nI j))], [.int (16 * (nI j)), .ref 79])) (h' := zH (zb v 68 (upd (upd (v 68) 0 0) 11 0)) w t) rfl ?_
  rw [show 16 * (nI j) = nI (16 * j) from pk_mul 16 j]
  refine zk_T.adv 4 (f' := (39, [(0, .ref 69), (1, .int (nI j))], [.int 16, .int 0, .ref 76, .int (nI (16 * j)), .ref 79])) (h' := zH (zb v 68 (upd (upd (v 68) 0 0) 11 0)) w t) rfl ?_
  refine zk_T.cl (v := none) (h' := zH (zb (zb v 68 (upd (upd (v 68) 0 0) 11 0)) 75 (zr_cpKs (v 78) (v 75) (16 * j))) w t) rfl (zs_cpKs (v := (zb v 68 (upd (upd (v 68) 0 0) 11 0))) (w := w) (16 * j) (by omega)) ?_
  show zk_T zk_mt zk_ex Ls xs zm_109 (42, [(0, .ref 69), (1, .int (nI j))], []) (zH (zb (zb v 68 (upd (upd (v 68) 0 0) 11 0)) 75 (zr_cpKs (v 78) (v 75) (16 * j))) w t) _
  refine zk_T.adv 4 (f' := (48, [(0, .ref 69), (1, .int (nI j))], [.int 1])) (h' := zH (zb (zb v 68 (upd (upd (upd (v 68) 0 0) 11 0) 23 0)) 75 (zr_cpKs (v 78) (v 75) (16 * j))) w t) rfl ?_
  exact zk_T.rt rfl rfl (by rfl)
def zl_mledG (lo x : Int32) (j : Nat) (s : Int32) : (Int32) ⊕ Int32 := match s with
  | n => if (zr_mhasBit lo (nI j)) = 0 then .inl n else (if n = x then .inr (nI j) else .inl (n + 1))
theorem zl_mled (hst : v 68 14 = 1) (Gn : Nat) (hG : v 71 3 = nI Gn) (h4 : Gn ≤ 4) (x : Int32) : ∀ (s : Int32) (q : Option Value × zk_H), zk_or (fun (s : Int32) => zk_T zk_mt zk_ex Ls xs zm_121 (59, [(0, .ref 69), (1, .int x), (2, .int s), (3, .int (nI (0 + Gn)))], []) (zH v w t) q) (fun (r : Int32) => (some (.int r), zH (zb v 68 (upd (v 68) 0 0)) w t) = q) (zfr (zl_mledG (v 75 14) x) Gn 0 s) → zk_T zk_mt zk_ex Ls xs zm_121 (4, [(0, .ref 69), (1, .int x), (2, .int s), (3, .int (nI 0))], []) (zH v w t) q := by
  intro s q hk
  refine zk_forX (M := zm_121) (fun j (s : Int32) => (4, [(0, .ref 69), (1, .int x), (2, .int s), (3, .int (nI j))], [])) (fun _ (s : Int32) => zH v w t) (zl_mledG (v 75 14) x) (fun _ _ => True) (fun (s : Int32) => (59, [(0, .ref 69), (1, .int x), (2, .int s), (3, .int (nI (0 + Gn)))], [])) (fun (s : Int32) => zH v w t) (fun r q => (some (.int r), zH (zb v 68 (upd (v 68) 0 0)) w t) = q) (Gn) 0 s (fun _ _ _ _ _ _ _ => trivial) (fun j s hj1 hj2 hp q hk => ?_) (fun s hp q hk => ?_) ?_ q hk
  · have hz := True.intro
    obtain ⟨n, rfl⟩ : ∃ z, z = s := ⟨_, rfl⟩
    show zk_T zk_mt zk_ex Ls xs zm_121 (4, [(0, .ref 69), (1, .int x), (2, .int n), (3, .int (nI j))], []) (zH v w t) q
    refine zk_T.adv 2 (f' := (8, [(0, .ref 69), (1, .int x), (2, .int n), (3, .int (nI j))], [.int (v 68 14)])) (h' := zH v w t) rfl ?_
    rw [show (v 68 14) = 1 from hst]
    refine zk_T.br (f1 := (59, [(0, .ref 69), (1, .int x), (2, .int n), (3, .int (nI j))], [])) (f2 := (11, [(0, .ref 69), (1, .int x), (2, .int n), (3, .int (nI j))], [])) rfl (fun c1 => absurd (of_decide_eq_true c1) (by decide)) (fun c1 => ?_)
    refine zk_T.adv 4 (f' := (17, [(0, .ref 69), (1, .int x), (2, .int n), (3, .int (nI j))], [.int 3, .ref 72, .int (nI j)])) (h' := zH v w t) rfl ?_
    refine zk_T.ob (f' := (18, [(0, .ref 69), (1, .int x), (2, .int n), (3, .int (nI j))], [.int (v 71 (3 : Int32).toNatClampNeg), .int (nI j)])) (h' := zH v w t) rfl rfl ?_
    show zk_T zk_mt zk_ex Ls xs zm_121 (18, [(0, .ref 69), (1, .int x), (2, .int n), (3, .int (nI j))], [.int (v 71 3), .int (nI j)]) (zH v w t) _
    refine zk_T.br (f1 := (59, [(0, .ref 69), (1, .int x), (2, .int n), (3, .int (nI j))], [])) (f2 := (21, [(0, .ref 69), (1, .int x), (2, .int n), (3, .int (nI j))], [])) rfl (fun c2 => absurd (of_decide_eq_true c2) (by rw [show _ = nI Gn from hG]; exact nI_ge (show j < Gn by omega) (by omega))) (fun c2 => ?_)
    refine zk_T.adv 3 (f' := (27, [(0, .ref 69), (1, .int x), (2, .int n), (3, .int (nI j))], [.int 14, .ref 76])) (h' := zH v w t) rfl ?_
    refine zk_T.ob (f' := (28, [(0, .ref 69), (1, .int x), (2, .int n), (3, .int (nI j))], [.int (v 75 (14 : Int32).toNatClampNeg)])) (h' := zH v w t) rfl rfl ?_
    show zk_T zk_mt zk_ex Ls xs zm_121 (28, [(0, .ref 69), (1, .int x), (2, .int n), (3, .int (nI j))], [.int (v 75 14)]) (zH v w t) _
    refine zk_T.adv 1 (f' := (29, [(0, .ref 69), (1, .int x), (2, .int n), (3, .int (nI j))], [.int (nI j), .int (v 75 14)])) (h' := zH v w t) rfl ?_
    refine zk_T.cl (v := some (.int (zr_mhasBit (v 75 14) (nI j)))) (h' := zH v w t) rfl (zs_mhasBit (v 75 14) (nI j)) ?_
    show zk_T zk_mt zk_ex Ls xs zm_121 (32, [(0, .ref 69), (1, .int x), (2, .int n), (3, .int (nI j))], [.int (zr_mhasBit (v 75 14) (nI j))]) (zH v w t) _
    refine zk_T.br (f1 := (35, [(0, .ref 69), (1, .int x), (2, .int n), (3, .int (nI j))], [])) (f2 := (38, [(0, .ref 69), (1, .int x), (2, .int n), (3, .int (nI j))], [])) rfl (fun c3 => ?_) (fun c3 => ?_)
    · have c3 : (zr_mhasBit (v 75 14) (nI j)) = 0 := of_decide_eq_true c3
      refine zk_T.adv 3 (f' := (4, [(0, .ref 69), (1, .int x), (2, .int n), (3, .int ((nI j) + 1))], [])) (h' := zH v w t) rfl ?_
      rw [nI_1]
      simp only [zl_mledG, zk_or, if_pos c3] at hk
      exact hk
    · have c3 : ¬ ((zr_mhasBit (v 75 14) (nI j)) = 0) := of_decide_eq_false c3
      refine zk_T.adv 2 (f' := (40, [(0, .ref 69), (1, .int x), (2, .int n), (3, .int (nI j))], [.int x, .int n])) (h' := zH v w t) rfl ?_
      refine zk_T.br (f1 := (43, [(0, .ref 69), (1, .int x), (2, .int n), (3, .int (nI j))], [])) (f2 := (50, [(0, .ref 69), (1, .int x), (2, .int n), (3, .int (nI j))], [])) rfl (fun c4 => ?_) (fun c4 => ?_)
      · have c4 : n = x := of_decide_eq_true c4
        refine zk_T.adv 4 (f' := (49, [(0, .ref 69), (1, .int x), (2, .int n), (3, .int (nI j))], [.int (nI j)])) (h' := zH (zb v 68 (upd (v 68) 0 0)) w t) rfl ?_
        simp only [zl_mledG, zk_or, if_neg c3, if_pos c4] at hk
        exact zk_T.rt rfl rfl hk
      · have c4 : ¬ (n = x) := of_decide_eq_false c4
        refine zk_T.adv 3 (f' := (4, [(0, .ref 69), (1, .int x), (2, .int (n + 1)), (3, .int ((nI j) + 1))], [])) (h' := zH v w t) rfl ?_
        rw [nI_1]
        simp only [zl_mledG, zk_or, if_neg c3, if_neg c4] at hk
        exact hk
  · have hz := True.intro
    obtain ⟨n, rfl⟩ : ∃ z, z = s := ⟨_, rfl⟩
    show zk_T zk_mt zk_ex Ls xs zm_121 (4, [(0, .ref 69), (1, .int x), (2, .int n), (3, .int (nI (0 + Gn)))], []) (zH v w t) q
    refine zk_T.adv 2 (f' := (8, [(0, .ref 69), (1, .int x), (2, .int n), (3, .int (nI (0 + Gn)))], [.int (v 68 14)])) (h' := zH v w t) rfl ?_
    rw [show (v 68 14) = 1 from hst]
    refine zk_T.br (f1 := (59, [(0, .ref 69), (1, .int x), (2, .int n), (3, .int (nI (0 + Gn)))], [])) (f2 := (11, [(0, .ref 69), (1, .int x), (2, .int n), (3, .int (nI (0 + Gn)))], [])) rfl (fun c1 => absurd (of_decide_eq_true c1) (by decide)) (fun c1 => ?_)
    refine zk_T.adv 4 (f' := (17, [(0, .ref 69), (1, .int x), (2, .int n), (3, .int (nI (0 + Gn)))], [.int 3, .ref 72, .int (nI (0 + Gn))])) (h' := zH v w t) rfl ?_
    refine zk_T.ob (f' := (18, [(0, .ref 69), (1, .int x), (2, .int n), (3, .int (nI (0 + Gn)))], [.int (v 71 (3 : Int32).toNatClampNeg), .int (nI (0 + Gn))])) (h' := zH v w t) rfl rfl ?_
    show zk_T zk_mt zk_ex Ls xs zm_121 (18, [(0, .ref 69), (1, .int x), (2, .int n), (3, .int (nI (0 + Gn)))], [.int (v 71 3), .int (nI (0 + Gn))]) (zH v w t) _
    refine zk_T.br (f1 := (59, [(0, .ref 69), (1, .int x), (2, .int n), (3, .int (nI (0 + Gn)))], [])) (f2 := (21, [(0, .ref 69), (1, .int x), (2, .int n), (3, .int (nI (0 + Gn)))], [])) rfl (fun c2 => ?_) (fun c2 => absurd (by rw [show _ = nI Gn from hG, Nat.zero_add]; exact nI_le (Nat.le_refl _) (by omega)) (of_decide_eq_false c2))
    exact hk
  · exact trivial
def zr_mled (Gn : Nat) (lo x : Int32) : Int32 × Int32 := match zfr (zl_mledG lo x) Gn 0 0 with | .inl s => (0, 1) | .inr r => (r, 0)
/-- BasketKeepModel.led -/
theorem zM_led_f (hst : v 68 14 = 1) (Gn : Nat) (hG : v 71 3 = nI Gn) (h4 : Gn ≤ 4) (x : Int32) : zk_Cr zk_mt zk_ex Ls xs 121 [.ref 69, .int x] (zH v w t) (some (.int (zr_mled Gn (v 75 14) x).1), zH (zb v 68 (upd (v 68) 0 ((zr_mled Gn (v 75 14) x).2))) w t) := by
  refine zk_Cr.of (K := zm_121) rfl rfl rfl ?_
  show zk_T zk_mt zk_ex Ls xs zm_121 (0, [(0, .ref 69), (1, .int x)], []) (zH v w t) _
  refine zk_T.adv 4 (f' := (4, [(0, .ref 69), (1, .int x), (2, .int 0), (3, .int 0)], [])) (h' := zH v w t) rfl ?_
  refine zl_mled (v := v) (w := w) (t := t) hst Gn hG h4 x 0 _ ?_
  cases z1 : zfr (zl_mledG (v 75 14) x) Gn 0 0 with
  | inl s =>
    show zk_T zk_mt zk_ex Ls xs zm_121 (59, [(0, .ref 69), (1, .int x), (2, .int s), (3, .int (nI (0 + Gn)))], []) (zH v w t) _
    refine zk_T.adv 4 (f' := (65, [(0, .ref 69), (1, .int x), (2, .int s), (3, .int (nI (0 + Gn)))], [.int 0])) (h' := zH (zb v 68 (upd (v 68) 0 1)) w t) rfl ?_
    exact zk_T.rt rfl rfl (by simp only [zr_mled, z1] <;> rfl)
  | inr r =>
    show ((some (Value.int r), zH (zb v 68 (upd (v 68) 0 0)) w t) : Option Value × zk_H) = _
    simp only [zr_mled, z1] <;> rfl
/-- BasketKeepModel.led -/
theorem zM_led_t (hst : v 68 14 = 0) (x : Int32) : zk_Cr zk_mt zk_ex Ls xs 121 [.ref 69, .int x] (zH v w t) (some (.int 0), zH (zb v 68 (upd (v 68) 0 1)) w t) := by
  refine zk_Cr.of (K := zm_121) rfl rfl rfl ?_
  show zk_T zk_mt zk_ex Ls xs zm_121 (0, [(0, .ref 69), (1, .int x)], []) (zH v w t) _
  refine zk_T.adv 6 (f' := (8, [(0, .ref 69), (1, .int x), (2, .int 0), (3, .int 0)], [.int (v 68 14)])) (h' := zH v w t) rfl ?_
  rw [show (v 68 14) = 0 from hst]
  refine zk_T.br (f1 := (59, [(0, .ref 69), (1, .int x), (2, .int 0), (3, .int 0)], [])) (f2 := (11, [(0, .ref 69), (1, .int x), (2, .int 0), (3, .int 0)], [])) rfl (fun c1 => ?_) (fun c1 => absurd (by decide) (of_decide_eq_false c1))
  refine zk_T.adv 4 (f' := (65, [(0, .ref 69), (1, .int x), (2, .int 0), (3, .int 0)], [.int 0])) (h' := zH (zb v 68 (upd (v 68) 0 1)) w t) rfl ?_
  exact zk_T.rt rfl rfl (by rfl)
/-- BasketKeepModel.size -/
theorem zM_size_10  : zk_Cr zk_mt zk_ex Ls xs 125 [.ref 69, .int 10] (zH v w t) (some (.int (v 68 2)), zH (zb v 68 (upd (v 68) 0 0)) w t) := by
  refine zk_Cr.of (K := zm_125) rfl rfl rfl ?_
  show zk_T zk_mt zk_ex Ls xs zm_125 (0, [(0, .ref 69), (1, .int 10)], []) (zH v w t) _
  refine zk_T.adv 5 (f' := (8, [(0, .ref 69), (1, .int 10)], [.int 10, .int 10])) (h' := zH (zb v 68 (upd (v 68) 0 0)) w t) rfl ?_
  refine zk_T.br (f1 := (11, [(0, .ref 69), (1, .int 10)], [])) (f2 := (16, [(0, .ref 69), (1, .int 10)], [])) rfl (fun c1 => ?_) (fun c1 => absurd (by decide) (of_decide_eq_false c1))
  refine zk_T.adv 2 (f' := (15, [(0, .ref 69), (1, .int 10)], [.int (v 68 2)])) (h' := zH (zb v 68 (upd (v 68) 0 0)) w t) rfl ?_
  exact zk_T.rt rfl rfl (by rfl)
def zr_msize0 (x : Int32) : Int32 := if (zr_mwithin x 0 9) = 0 then (-1) else 0
/-- BasketKeepModel.size -/
theorem zM_size_t (hst : v 68 14 = 0) (x : Int32) (hx : ¬ x = 10) : zk_Cr zk_mt zk_ex Ls xs 125 [.ref 69, .int x] (zH v w t) (some (.int (zr_msize0 x)), zH (zb v 68 (upd (v 68) 0 0)) w t) := by
  refine zk_Cr.of (K := zm_125) rfl rfl rfl ?_
  show zk_T zk_mt zk_ex Ls xs zm_125 (0, [(0, .ref 69), (1, .int x)], []) (zH v w t) _
  refine zk_T.adv 5 (f' := (8, [(0, .ref 69), (1, .int x)], [.int 10, .int x])) (h' := zH (zb v 68 (upd (v 68) 0 0)) w t) rfl ?_
  refine zk_T.br (f1 := (11, [(0, .ref 69), (1, .int x)], [])) (f2 := (16, [(0, .ref 69), (1, .int x)], [])) rfl (fun c1 => absurd (of_decide_eq_true c1) hx) (fun c1 => ?_)
  refine zk_T.adv 2 (f' := (20, [(0, .ref 69), (1, .int x)], [.int (v 68 14)])) (h' := zH (zb v 68 (upd (v 68) 0 0)) w t) rfl ?_
  rw [show (v 68 14) = 0 from hst]
  refine zk_T.br (f1 := (23, [(0, .ref 69), (1, .int x)], [])) (f2 := (39, [(0, .ref 69), (1, .int x)], [])) rfl (fun c2 => ?_) (fun c2 => absurd (by decide) (of_decide_eq_false c2))
  refine zk_T.adv 3 (f' := (27, [(0, .ref 69), (1, .int x)], [.int 9, .int 0, .int x])) (h' := zH (zb v 68 (upd (v 68) 0 0)) w t) rfl ?_
  refine zk_T.cl (v := some (.int (zr_mwithin x 0 9))) (h' := zH (zb v 68 (upd (v 68) 0 0)) w t) rfl (zs_mwithin x 0 9) ?_
  show zk_T zk_mt zk_ex Ls xs zm_125 (30, [(0, .ref 69), (1, .int x)], [.int (zr_mwithin x 0 9)]) (zH (zb v 68 (upd (v 68) 0 0)) w t) _
  refine zk_T.br (f1 := (37, [(0, .ref 69), (1, .int x)], [])) (f2 := (33, [(0, .ref 69), (1, .int x)], [])) rfl (fun c3 => ?_) (fun c3 => ?_)
  · have c3 : (zr_mwithin x 0 9) = 0 := of_decide_eq_true c3
    refine zk_T.adv 1 (f' := (38, [(0, .ref 69), (1, .int x)], [.int (-1)])) (h' := zH (zb v 68 (upd (v 68) 0 0)) w t) rfl ?_
    exact zk_T.rt rfl rfl (by simp only [zr_msize0, if_pos c3])
  · have c3 : ¬ ((zr_mwithin x 0 9) = 0) := of_decide_eq_false c3
    refine zk_T.adv 2 (f' := (38, [(0, .ref 69), (1, .int x)], [.int 0])) (h' := zH (zb v 68 (upd (v 68) 0 0)) w t) rfl ?_
    exact zk_T.rt rfl rfl (by simp only [zr_msize0, if_neg c3])
/-- BasketKeepModel.size -/
theorem zM_size_0 (hst : v 68 14 = 1) : zk_Cr zk_mt zk_ex Ls xs 125 [.ref 69, .int 0] (zH v w t) (some (.int (v 71 0)), zH (zb v 68 (upd (v 68) 0 0)) w t) := by
  refine zk_Cr.of (K := zm_125) rfl rfl rfl ?_
  show zk_T zk_mt zk_ex Ls xs zm_125 (0, [(0, .ref 69), (1, .int 0)], []) (zH v w t) _
  refine zk_T.adv 5 (f' := (8, [(0, .ref 69), (1, .int 0)], [.int 10, .int 0])) (h' := zH (zb v 68 (upd (v 68) 0 0)) w t) rfl ?_
  refine zk_T.br (f1 := (11, [(0, .ref 69), (1, .int 0)], [])) (f2 := (16, [(0, .ref 69), (1, .int 0)], [])) rfl (fun c1 => absurd (of_decide_eq_true c1) (by decide)) (fun c1 => ?_)
  refine zk_T.adv 2 (f' := (20, [(0, .ref 69), (1, .int 0)], [.int (v 68 14)])) (h' := zH (zb v 68 (upd (v 68) 0 0)) w t) rfl ?_
  rw [show (v 68 14) = 1 from hst]
  refine zk_T.br (f1 := (23, [(0, .ref 69), (1, .int 0)], [])) (f2 := (39, [(0, .ref 69), (1, .int 0)], [])) rfl (fun c2 => absurd (of_decide_eq_true c2) (by decide)) (fun c2 => ?_)
  refine zk_T.adv 1 (f' := (40, [(0, .ref 69), (1, .int 0)], [.int 0])) (h' := zH (zb v 68 (upd (v 68) 0 0)) w t) rfl ?_
  refine zk_T.adv 4 (f' := (101, [(0, .ref 69), (1, .int 0)], [.int 0, .ref 72])) (h' := zH (zb v 68 (upd (v 68) 0 0)) w t) rfl ?_
  refine zk_T.ob (f' := (102, [(0, .ref 69), (1, .int 0)], [.int (v 71 (0 : Int32).toNatClampNeg)])) (h' := zH (zb v 68 (upd (v 68) 0 0)) w t) rfl rfl ?_
  show zk_T zk_mt zk_ex Ls xs zm_125 (102, [(0, .ref 69), (1, .int 0)], [.int (v 71 0)]) (zH (zb v 68 (upd (v 68) 0 0)) w t) _
  exact zk_T.rt rfl rfl (by rfl)
/-- BasketKeepModel.size -/
theorem zM_size_1 (hst : v 68 14 = 1) : zk_Cr zk_mt zk_ex Ls xs 125 [.ref 69, .int 1] (zH v w t) (some (.int (v 71 1)), zH (zb v 68 (upd (v 68) 0 0)) w t) := by
  refine zk_Cr.of (K := zm_125) rfl rfl rfl ?_
  show zk_T zk_mt zk_ex Ls xs zm_125 (0, [(0, .ref 69), (1, .int 1)], []) (zH v w t) _
  refine zk_T.adv 5 (f' := (8, [(0, .ref 69), (1, .int 1)], [.int 10, .int 1])) (h' := zH (zb v 68 (upd (v 68) 0 0)) w t) rfl ?_
  refine zk_T.br (f1 := (11, [(0, .ref 69), (1, .int 1)], [])) (f2 := (16, [(0, .ref 69), (1, .int 1)], [])) rfl (fun c1 => absurd (of_decide_eq_true c1) (by decide)) (fun c1 => ?_)
  refine zk_T.adv 2 (f' := (20, [(0, .ref 69), (1, .int 1)], [.int (v 68 14)])) (h' := zH (zb v 68 (upd (v 68) 0 0)) w t) rfl ?_
  rw [show (v 68 14) = 1 from hst]
  refine zk_T.br (f1 := (23, [(0, .ref 69), (1, .int 1)], [])) (f2 := (39, [(0, .ref 69), (1, .int 1)], [])) rfl (fun c2 => absurd (of_decide_eq_true c2) (by decide)) (fun c2 => ?_)
  refine zk_T.adv 1 (f' := (40, [(0, .ref 69), (1, .int 1)], [.int 1])) (h' := zH (zb v 68 (upd (v 68) 0 0)) w t) rfl ?_
  refine zk_T.adv 4 (f' := (101, [(0, .ref 69), (1, .int 1)], [.int 1, .ref 72])) (h' := zH (zb v 68 (upd (v 68) 0 0)) w t) rfl ?_
  refine zk_T.ob (f' := (102, [(0, .ref 69), (1, .int 1)], [.int (v 71 (1 : Int32).toNatClampNeg)])) (h' := zH (zb v 68 (upd (v 68) 0 0)) w t) rfl rfl ?_
  show zk_T zk_mt zk_ex Ls xs zm_125 (102, [(0, .ref 69), (1, .int 1)], [.int (v 71 1)]) (zH (zb v 68 (upd (v 68) 0 0)) w t) _
  exact zk_T.rt rfl rfl (by rfl)
/-- BasketKeepModel.size -/
theorem zM_size_2 (hst : v 68 14 = 1) : zk_Cr zk_mt zk_ex Ls xs 125 [.ref 69, .int 2] (zH v w t) (some (.int (v 71 2)), zH (zb v 68 (upd (v 68) 0 0)) w t) := by
  refine zk_Cr.of (K := zm_125) rfl rfl rfl ?_
  show zk_T zk_mt zk_ex Ls xs zm_125 (0, [(0, .ref 69), (1, .int 2)], []) (zH v w t) _
  refine zk_T.adv 5 (f' := (8, [(0, .ref 69), (1, .int 2)], [.int 10, .int 2])) (h' := zH (zb v 68 (upd (v 68) 0 0)) w t) rfl ?_
  refine zk_T.br (f1 := (11, [(0, .ref 69), (1, .int 2)], [])) (f2 := (16, [(0, .ref 69), (1, .int 2)], [])) rfl (fun c1 => absurd (of_decide_eq_true c1) (by decide)) (fun c1 => ?_)
  refine zk_T.adv 2 (f' := (20, [(0, .ref 69), (1, .int 2)], [.int (v 68 14)])) (h' := zH (zb v 68 (upd (v 68) 0 0)) w t) rfl ?_
  rw [show (v 68 14) = 1 from hst]
  refine zk_T.br (f1 := (23, [(0, .ref 69), (1, .int 2)], [])) (f2 := (39, [(0, .ref 69), (1, .int 2)], [])) rfl (fun c2 => absurd (of_decide_eq_true c2) (by decide)) (fun c2 => ?_)
  refine zk_T.adv 1 (f' := (40, [(0, .ref 69), (1, .int 2)], [.int 2])) (h' := zH (zb v 68 (upd (v 68) 0 0)) w t) rfl ?_
  refine zk_T.adv 4 (f' := (101, [(0, .ref 69), (1, .int 2)], [.int 2, .ref 72])) (h' := zH (zb v 68 (upd (v 68) 0 0)) w t) rfl ?_
  refine zk_T.ob (f' := (102, [(0, .ref 69), (1, .int 2)], [.int (v 71 (2 : Int32).toNatClampNeg)])) (h' := zH (zb v 68 (upd (v 68) 0 0)) w t) rfl rfl ?_
  show zk_T zk_mt zk_ex Ls xs zm_125 (102, [(0, .ref 69), (1, .int 2)], [.int (v 71 2)]) (zH (zb v 68 (upd (v 68) 0 0)) w t) _
  exact zk_T.rt rfl rfl (by rfl)
/-- BasketKeepModel.size -/
theorem zM_size_3 (hst : v 68 14 = 1) : zk_Cr zk_mt zk_ex Ls xs 125 [.ref 69, .int 3] (zH v w t) (some (.int (v 71 3)), zH (zb v 68 (upd (v 68) 0 0)) w t) := by
  refine zk_Cr.of (K := zm_125) rfl rfl rfl ?_
  show zk_T zk_mt zk_ex Ls xs zm_125 (0, [(0, .ref 69), (1, .int 3)], []) (zH v w t) _
  refine zk_T.adv 5 (f' := (8, [(0, .ref 69), (1, .int 3)], [.int 10, .int 3])) (h' := zH (zb v 68 (upd (v 68) 0 0)) w t) rfl ?_
  refine zk_T.br (f1 := (11, [(0, .ref 69), (1, .int 3)], [])) (f2 := (16, [(0, .ref 69), (1, .int 3)], [])) rfl (fun c1 => absurd (of_decide_eq_true c1) (by decide)) (fun c1 => ?_)
  refine zk_T.adv 2 (f' := (20, [(0, .ref 69), (1, .int 3)], [.int (v 68 14)])) (h' := zH (zb v 68 (upd (v 68) 0 0)) w t) rfl ?_
  rw [show (v 68 14) = 1 from hst]
  refine zk_T.br (f1 := (23, [(0, .ref 69), (1, .int 3)], [])) (f2 := (39, [(0, .ref 69), (1, .int 3)], [])) rfl (fun c2 => absurd (of_decide_eq_true c2) (by decide)) (fun c2 => ?_)
  refine zk_T.adv 1 (f' := (40, [(0, .ref 69), (1, .int 3)], [.int 3])) (h' := zH (zb v 68 (upd (v 68) 0 0)) w t) rfl ?_
  refine zk_T.adv 4 (f' := (101, [(0, .ref 69), (1, .int 3)], [.int 3, .ref 72])) (h' := zH (zb v 68 (upd (v 68) 0 0)) w t) rfl ?_
  refine zk_T.ob (f' := (102, [(0, .ref 69), (1, .int 3)], [.int (v 71 (3 : Int32).toNatClampNeg)])) (h' := zH (zb v 68 (upd (v 68) 0 0)) w t) rfl rfl ?_
  show zk_T zk_mt zk_ex Ls xs zm_125 (102, [(0, .ref 69), (1, .int 3)], [.int (v 71 3)]) (zH (zb v 68 (upd (v 68) 0 0)) w t) _
  exact zk_T.rt rfl rfl (by rfl)
/-- BasketKeepModel.size -/
theorem zM_size_4 (hst : v 68 14 = 1) (Gn : Nat) (hG : v 71 3 = nI Gn) (h4 : Gn ≤ 4) : zk_Cr zk_mt zk_ex Ls xs 125 [.ref 69, .int 4] (zH v w t) (some (.int (zr_mlaidMany Gn (v 75) )), zH (zb v 68 (upd (v 68) 0 0)) w t) := by
  refine zk_Cr.of (K := zm_125) rfl rfl rfl ?_
  show zk_T zk_mt zk_ex Ls xs zm_125 (0, [(0, .ref 69), (1, .int 4)], []) (zH v w t) _
  refine zk_T.adv 5 (f' := (8, [(0, .ref 69), (1, .int 4)], [.int 10, .int 4])) (h' := zH (zb v 68 (upd (v 68) 0 0)) w t) rfl ?_
  refine zk_T.br (f1 := (11, [(0, .ref 69), (1, .int 4)], [])) (f2 := (16, [(0, .ref 69), (1, .int 4)], [])) rfl (fun c1 => absurd (of_decide_eq_true c1) (by decide)) (fun c1 => ?_)
  refine zk_T.adv 2 (f' := (20, [(0, .ref 69), (1, .int 4)], [.int (v 68 14)])) (h' := zH (zb v 68 (upd (v 68) 0 0)) w t) rfl ?_
  rw [show (v 68 14) = 1 from hst]
  refine zk_T.br (f1 := (23, [(0, .ref 69), (1, .int 4)], [])) (f2 := (39, [(0, .ref 69), (1, .int 4)], [])) rfl (fun c2 => absurd (of_decide_eq_true c2) (by decide)) (fun c2 => ?_)
  refine zk_T.adv 1 (f' := (40, [(0, .ref 69), (1, .int 4)], [.int 4])) (h' := zH (zb v 68 (upd (v 68) 0 0)) w t) rfl ?_
  refine zk_T.adv 2 (f' := (104, [(0, .ref 69), (1, .int 4)], [.ref 69])) (h' := zH (zb v 68 (upd (v 68) 0 0)) w t) rfl ?_
  refine zk_T.cl (v := some (.int (zr_mlaidMany Gn (v 75) ))) (h' := zH (zb v 68 (upd (v 68) 0 0)) w t) rfl (zs_mlaidMany (v := (zb v 68 (upd (v 68) 0 0))) (w := w) Gn hG h4 ) ?_
  show zk_T zk_mt zk_ex Ls xs zm_125 (107, [(0, .ref 69), (1, .int 4)], [.int (zr_mlaidMany Gn (v 75) )]) (zH (zb v 68 (upd (v 68) 0 0)) w t) _
  exact zk_T.rt rfl rfl (by rfl)
/-- BasketKeepModel.size -/
theorem zM_size_5 (hst : v 68 14 = 1) : zk_Cr zk_mt zk_ex Ls xs 125 [.ref 69, .int 5] (zH v w t) (some (.int (v 71 4)), zH (zb v 68 (upd (v 68) 0 0)) w t) := by
  refine zk_Cr.of (K := zm_125) rfl rfl rfl ?_
  show zk_T zk_mt zk_ex Ls xs zm_125 (0, [(0, .ref 69), (1, .int 5)], []) (zH v w t) _
  refine zk_T.adv 5 (f' := (8, [(0, .ref 69), (1, .int 5)], [.int 10, .int 5])) (h' := zH (zb v 68 (upd (v 68) 0 0)) w t) rfl ?_
  refine zk_T.br (f1 := (11, [(0, .ref 69), (1, .int 5)], [])) (f2 := (16, [(0, .ref 69), (1, .int 5)], [])) rfl (fun c1 => absurd (of_decide_eq_true c1) (by decide)) (fun c1 => ?_)
  refine zk_T.adv 2 (f' := (20, [(0, .ref 69), (1, .int 5)], [.int (v 68 14)])) (h' := zH (zb v 68 (upd (v 68) 0 0)) w t) rfl ?_
  rw [show (v 68 14) = 1 from hst]
  refine zk_T.br (f1 := (23, [(0, .ref 69), (1, .int 5)], [])) (f2 := (39, [(0, .ref 69), (1, .int 5)], [])) rfl (fun c2 => absurd (of_decide_eq_true c2) (by decide)) (fun c2 => ?_)
  refine zk_T.adv 1 (f' := (40, [(0, .ref 69), (1, .int 5)], [.int 5])) (h' := zH (zb v 68 (upd (v 68) 0 0)) w t) rfl ?_
  refine zk_T.adv 6 (f' := (115, [(0, .ref 69), (1, .int 5)], [.int 4, .ref 72])) (h' := zH (zb v 68 (upd (v 68) 0 0)) w t) rfl ?_
  refine zk_T.ob (f' := (116, [(0, .ref 69), (1, .int 5)], [.int (v 71 (4 : Int32).toNatClampNeg)])) (h' := zH (zb v 68 (upd (v 68) 0 0)) w t) rfl rfl ?_
  show zk_T zk_mt zk_ex Ls xs zm_125 (116, [(0, .ref 69), (1, .int 5)], [.int (v 71 4)]) (zH (zb v 68 (upd (v 68) 0 0)) w t) _
  exact zk_T.rt rfl rfl (by rfl)
/-- BasketKeepModel.size -/
theorem zM_size_6 (hst : v 68 14 = 1) : zk_Cr zk_mt zk_ex Ls xs 125 [.ref 69, .int 6] (zH v w t) (some (.int (v 71 5)), zH (zb v 68 (upd (v 68) 0 0)) w t) := by
  refine zk_Cr.of (K := zm_125) rfl rfl rfl ?_
  show zk_T zk_mt zk_ex Ls xs zm_125 (0, [(0, .ref 69), (1, .int 6)], []) (zH v w t) _
  refine zk_T.adv 5 (f' := (8, [(0, .ref 69), (1, .int 6)], [.int 10, .int 6])) (h' := zH (zb v 68 (upd (v 68) 0 0)) w t) rfl ?_
  refine zk_T.br (f1 := (11, [(0, .ref 69), (1, .int 6)], [])) (f2 := (16, [(0, .ref 69), (1, .int 6)], [])) rfl (fun c1 => absurd (of_decide_eq_true c1) (by decide)) (fun c1 => ?_)
  refine zk_T.adv 2 (f' := (20, [(0, .ref 69), (1, .int 6)], [.int (v 68 14)])) (h' := zH (zb v 68 (upd (v 68) 0 0)) w t) rfl ?_
  rw [show (v 68 14) = 1 from hst]
  refine zk_T.br (f1 := (23, [(0, .ref 69), (1, .int 6)], [])) (f2 := (39, [(0, .ref 69), (1, .int 6)], [])) rfl (fun c2 => absurd (of_decide_eq_true c2) (by decide)) (fun c2 => ?_)
  refine zk_T.adv 1 (f' := (40, [(0, .ref 69), (1, .int 6)], [.int 6])) (h' := zH (zb v 68 (upd (v 68) 0 0)) w t) rfl ?_
  refine zk_T.adv 6 (f' := (115, [(0, .ref 69), (1, .int 6)], [.int 5, .ref 72])) (h' := zH (zb v 68 (upd (v 68) 0 0)) w t) rfl ?_
  refine zk_T.ob (f' := (116, [(0, .ref 69), (1, .int 6)], [.int (v 71 (5 : Int32).toNatClampNeg)])) (h' := zH (zb v 68 (upd (v 68) 0 0)) w t) rfl rfl ?_
  show zk_T zk_mt zk_ex Ls xs zm_125 (116, [(0, .ref 69), (1, .int 6)], [.int (v 71 5)]) (zH (zb v 68 (upd (v 68) 0 0)) w t) _
  exact zk_T.rt rfl rfl (by rfl)
/-- BasketKeepModel.size -/
theorem zM_size_7 (hst : v 68 14 = 1) : zk_Cr zk_mt zk_ex Ls xs 125 [.ref 69, .int 7] (zH v w t) (some (.int (v 75 15)), zH (zb v 68 (upd (v 68) 0 0)) w t) := by
  refine zk_Cr.of (K := zm_125) rfl rfl rfl ?_
  show zk_T zk_mt zk_ex Ls xs zm_125 (0, [(0, .ref 69), (1, .int 7)], []) (zH v w t) _
  refine zk_T.adv 5 (f' := (8, [(0, .ref 69), (1, .int 7)], [.int 10, .int 7])) (h' := zH (zb v 68 (upd (v 68) 0 0)) w t) rfl ?_
  refine zk_T.br (f1 := (11, [(0, .ref 69), (1, .int 7)], [])) (f2 := (16, [(0, .ref 69), (1, .int 7)], [])) rfl (fun c1 => absurd (of_decide_eq_true c1) (by decide)) (fun c1 => ?_)
  refine zk_T.adv 2 (f' := (20, [(0, .ref 69), (1, .int 7)], [.int (v 68 14)])) (h' := zH (zb v 68 (upd (v 68) 0 0)) w t) rfl ?_
  rw [show (v 68 14) = 1 from hst]
  refine zk_T.br (f1 := (23, [(0, .ref 69), (1, .int 7)], [])) (f2 := (39, [(0, .ref 69), (1, .int 7)], [])) rfl (fun c2 => absurd (of_decide_eq_true c2) (by decide)) (fun c2 => ?_)
  refine zk_T.adv 1 (f' := (40, [(0, .ref 69), (1, .int 7)], [.int 7])) (h' := zH (zb v 68 (upd (v 68) 0 0)) w t) rfl ?_
  refine zk_T.adv 4 (f' := (123, [(0, .ref 69), (1, .int 7)], [.int 15, .ref 76])) (h' := zH (zb v 68 (upd (v 68) 0 0)) w t) rfl ?_
  refine zk_T.ob (f' := (124, [(0, .ref 69), (1, .int 7)], [.int (v 75 (15 : Int32).toNatClampNeg)])) (h' := zH (zb v 68 (upd (v 68) 0 0)) w t) rfl rfl ?_
  show zk_T zk_mt zk_ex Ls xs zm_125 (124, [(0, .ref 69), (1, .int 7)], [.int (v 75 15)]) (zH (zb v 68 (upd (v 68) 0 0)) w t) _
  exact zk_T.rt rfl rfl (by rfl)
/-- BasketKeepModel.size -/
theorem zM_size_8 (hst : v 68 14 = 1) : zk_Cr zk_mt zk_ex Ls xs 125 [.ref 69, .int 8] (zH v w t) (some (.int (v 68 23)), zH (zb v 68 (upd (v 68) 0 0)) w t) := by
  refine zk_Cr.of (K := zm_125) rfl rfl rfl ?_
  show zk_T zk_mt zk_ex Ls xs zm_125 (0, [(0, .ref 69), (1, .int 8)], []) (zH v w t) _
  refine zk_T.adv 5 (f' := (8, [(0, .ref 69), (1, .int 8)], [.int 10, .int 8])) (h' := zH (zb v 68 (upd (v 68) 0 0)) w t) rfl ?_
  refine zk_T.br (f1 := (11, [(0, .ref 69), (1, .int 8)], [])) (f2 := (16, [(0, .ref 69), (1, .int 8)], [])) rfl (fun c1 => absurd (of_decide_eq_true c1) (by decide)) (fun c1 => ?_)
  refine zk_T.adv 2 (f' := (20, [(0, .ref 69), (1, .int 8)], [.int (v 68 14)])) (h' := zH (zb v 68 (upd (v 68) 0 0)) w t) rfl ?_
  rw [show (v 68 14) = 1 from hst]
  refine zk_T.br (f1 := (23, [(0, .ref 69), (1, .int 8)], [])) (f2 := (39, [(0, .ref 69), (1, .int 8)], [])) rfl (fun c2 => absurd (of_decide_eq_true c2) (by decide)) (fun c2 => ?_)
  refine zk_T.adv 1 (f' := (40, [(0, .ref 69), (1, .int 8)], [.int 8])) (h' := zH (zb v 68 (upd (v 68) 0 0)) w t) rfl ?_
  refine zk_T.adv 3 (f' := (129, [(0, .ref 69), (1, .int 8)], [.int (v 68 23)])) (h' := zH (zb v 68 (upd (v 68) 0 0)) w t) rfl ?_
  exact zk_T.rt rfl rfl (by rfl)
/-- BasketKeepModel.size -/
theorem zM_size_9 (hst : v 68 14 = 1) : zk_Cr zk_mt zk_ex Ls xs 125 [.ref 69, .int 9] (zH v w t) (some (.int (v 68 24)), zH (zb v 68 (upd (v 68) 0 0)) w t) := by
  refine zk_Cr.of (K := zm_125) rfl rfl rfl ?_
  show zk_T zk_mt zk_ex Ls xs zm_125 (0, [(0, .ref 69), (1, .int 9)], []) (zH v w t) _
  refine zk_T.adv 5 (f' := (8, [(0, .ref 69), (1, .int 9)], [.int 10, .int 9])) (h' := zH (zb v 68 (upd (v 68) 0 0)) w t) rfl ?_
  refine zk_T.br (f1 := (11, [(0, .ref 69), (1, .int 9)], [])) (f2 := (16, [(0, .ref 69), (1, .int 9)], [])) rfl (fun c1 => absurd (of_decide_eq_true c1) (by decide)) (fun c1 => ?_)
  refine zk_T.adv 2 (f' := (20, [(0, .ref 69), (1, .int 9)], [.int (v 68 14)])) (h' := zH (zb v 68 (upd (v 68) 0 0)) w t) rfl ?_
  rw [show (v 68 14) = 1 from hst]
  refine zk_T.br (f1 := (23, [(0, .ref 69), (1, .int 9)], [])) (f2 := (39, [(0, .ref 69), (1, .int 9)], [])) rfl (fun c2 => absurd (of_decide_eq_true c2) (by decide)) (fun c2 => ?_)
  refine zk_T.adv 1 (f' := (40, [(0, .ref 69), (1, .int 9)], [.int 9])) (h' := zH (zb v 68 (upd (v 68) 0 0)) w t) rfl ?_
  refine zk_T.adv 3 (f' := (134, [(0, .ref 69), (1, .int 9)], [.int (v 68 24)])) (h' := zH (zb v 68 (upd (v 68) 0 0)) w t) rfl ?_
  exact zk_T.rt rfl rfl (by rfl)
def zl_mfeedG (a b c d e : Int32) (j : Nat) (s : Nat × (Nat → Int32)) : Nat × (Nat → Int32) := match s with
  | (k, tp) => if 4 ≤ (nI j) then if 8 ≤ (nI j) then if 12 ≤ (nI j) then if 16 ≤ (nI j) then ((k + 1), upd tp k ((e >>> ((24 - (8 * ((nI j) - (nI j) / 4 * 4))) &&& 31)) &&& 255)) else ((k + 1), upd tp k ((d >>> ((24 - (8 * ((nI j) - (nI j) / 4 * 4))) &&& 31)) &&& 255)) else ((k + 1), upd tp k ((c >>> ((24 - (8 * ((nI j) - (nI j) / 4 * 4))) &&& 31)) &&& 255)) else ((k + 1), upd tp k ((b >>> ((24 - (8 * ((nI j) - (nI j) / 4 * 4))) &&& 31)) &&& 255)) else ((k + 1), upd tp k ((a >>> ((24 - (8 * ((nI j) - (nI j) / 4 * 4))) &&& 31)) &&& 255))
theorem zl_mfeed (a b c d e : Int32) : ∀ (s : Nat × (Nat → Int32)) (q : Option Value × zk_H), s.1 + (20 - 0) ≤ 900 → zk_T zk_mt zk_ex Ls xs zm_46 ((fun (s : Nat × (Nat → Int32)) => ((120, [(0, .ref 69), (1, .int a), (2, .int b), (3, .int c), (4, .int d), (5, .int e), (6, .int (nI (0 + 20)))], []) : zk_F)) (zf (zl_mfeedG a b c d e) 20 0 s)) ((fun (s : Nat × (Nat → Int32)) => zH (zb (zb v 68 (upd (upd (v 68) 0 0) 2 (nI s.1))) 69 s.2) w t) (zf (zl_mfeedG a b c d e) 20 0 s)) q → zk_T zk_mt zk_ex Ls xs zm_46 (23, [(0, .ref 69), (1, .int a), (2, .int b), (3, .int c), (4, .int d), (5, .int e), (6, .int (nI 0))], []) (zH (zb (zb v 68 (upd (upd (v 68) 0 0) 2 (nI s.1))) 69 s.2) w t) q := by
  intro s q hP0 hk
  refine zk_forK (M := zm_46) (fun j (s : Nat × (Nat → Int32)) => (23, [(0, .ref 69), (1, .int a), (2, .int b), (3, .int c), (4, .int d), (5, .int e), (6, .int (nI j))], [])) (fun _ (s : Nat × (Nat → Int32)) => zH (zb (zb v 68 (upd (upd (v 68) 0 0) 2 (nI s.1))) 69 s.2) w t) (zl_mfeedG a b c d e) (fun j (s : Nat × (Nat → Int32)) => s.1 + (20 - j) ≤ 900) (fun (s : Nat × (Nat → Int32)) => (120, [(0, .ref 69), (1, .int a), (2, .int b), (3, .int c), (4, .int d), (5, .int e), (6, .int (nI (0 + 20)))], [])) (fun (s : Nat × (Nat → Int32)) => zH (zb (zb v 68 (upd (upd (v 68) 0 0) 2 (nI s.1))) 69 s.2) w t) (20) 0 s (fun j s hj1 hj2 hp => by obtain ⟨k, tp⟩ := s; have hp : k + (20 - j) ≤ 900 := hp; show (zl_mfeedG a b c d e j (k, tp)).1 + (20 - (j + 1)) ≤ 900; unfold zl_mfeedG; dsimp only; (repeat' split) <;> (show k + 1 + (20 - (j + 1)) ≤ 900; omega)) (fun j s hj1 hj2 hp q hk => ?_) (fun s hp q hk => ?_) ?_ q hk
  · obtain ⟨k, tp⟩ := s
    show zk_T zk_mt zk_ex Ls xs zm_46 (23, [(0, .ref 69), (1, .int a), (2, .int b), (3, .int c), (4, .int d), (5, .int e), (6, .int (nI j))], []) (zH (zb (zb v 68 (upd (upd (v 68) 0 0) 2 (nI k))) 69 tp) w t) q
    have hp : k + (20 - j) ≤ 900 := hp
    refine zk_T.adv 2 (f' := (27, [(0, .ref 69), (1, .int a), (2, .int b), (3, .int c), (4, .int d), (5, .int e), (6, .int (nI j))], [.int 20, .int (nI j)])) (h' := zH (zb (zb v 68 (upd (upd (v 68) 0 0) 2 (nI k))) 69 tp) w t) rfl ?_
    refine zk_T.br (f1 := (120, [(0, .ref 69), (1, .int a), (2, .int b), (3, .int c), (4, .int d), (5, .int e), (6, .int (nI j))], [])) (f2 := (30, [(0, .ref 69), (1, .int a), (2, .int b), (3, .int c), (4, .int d), (5, .int e), (6, .int (nI j))], [])) rfl (fun c1 => absurd (of_decide_eq_true c1) (show ¬ 20 ≤ nI j from nI_ge (by omega) (by decide))) (fun c1 => ?_)
    refine zk_T.adv 2 (f' := (33, [(0, .ref 69), (1, .int a), (2, .int b), (3, .int c), (4, .int d), (5, .int e), (6, .int (nI j))], [.int 4, .int (nI j)])) (h' := zH (zb (zb v 68 (upd (upd (v 68) 0 0) 2 (nI k))) 69 tp) w t) rfl ?_
    refine zk_T.br (f1 := (40, [(0, .ref 69), (1, .int a), (2, .int b), (3, .int c), (4, .int d), (5, .int e), (6, .int (nI j))], [])) (f2 := (36, [(0, .ref 69), (1, .int a), (2, .int b), (3, .int c), (4, .int d), (5, .int e), (6, .int (nI j))], [])) rfl (fun c2 => ?_) (fun c2 => ?_)
    · have c2 : 4 ≤ (nI j) := of_decide_eq_true c2
      refine zk_T.adv 2 (f' := (44, [(0, .ref 69), (1, .int a), (2, .int b), (3, .int c), (4, .int d), (5, .int e), (6, .int (nI j))], [.int 8, .int (nI j)])) (h' := zH (zb (zb v 68 (upd (upd (v 68) 0 0) 2 (nI k))) 69 tp) w t) rfl ?_
      refine zk_T.br (f1 := (51, [(0, .ref 69), (1, .int a), (2, .int b), (3, .int c), (4, .int d), (5, .int e), (6, .int (nI j))], [])) (f2 := (47, [(0, .ref 69), (1, .int a), (2, .int b), (3, .int c), (4, .int d), (5, .int e), (6, .int (nI j))], [])) rfl (fun c3 => ?_) (fun c3 => ?_)
      · have c3 : 8 ≤ (nI j) := of_decide_eq_true c3
        refine zk_T.adv 2 (f' := (55, [(0, .ref 69), (1, .int a), (2, .int b), (3, .int c), (4, .int d), (5, .int e), (6, .int (nI j))], [.int 12, .int (nI j)])) (h' := zH (zb (zb v 68 (upd (upd (v 68) 0 0) 2 (nI k))) 69 tp) w t) rfl ?_
        refine zk_T.br (f1 := (62, [(0, .ref 69), (1, .int a), (2, .int b), (3, .int c), (4, .int d), (5, .int e), (6, .int (nI j))], [])) (f2 := (58, [(0, .ref 69), (1, .int a), (2, .int b), (3, .int c), (4, .int d), (5, .int e), (6, .int (nI j))], [])) rfl (fun c4 => ?_) (fun c4 => ?_)
        · have c4 : 12 ≤ (nI j) := of_decide_eq_true c4
          refine zk_T.adv 2 (f' := (66, [(0, .ref 69), (1, .int a), (2, .int b), (3, .int c), (4, .int d), (5, .int e), (6, .int (nI j))], [.int 16, .int (nI j)])) (h' := zH (zb (zb v 68 (upd (upd (v 68) 0 0) 2 (nI k))) 69 tp) w t) rfl ?_
          refine zk_T.br (f1 := (74, [(0, .ref 69), (1, .int a), (2, .int b), (3, .int c), (4, .int d), (5, .int e), (6, .int (nI j))], [])) (f2 := (69, [(0, .ref 69), (1, .int a), (2, .int b), (3, .int c), (4, .int d), (5, .int e), (6, .int (nI j))], [])) rfl (fun c5 => ?_) (fun c5 => ?_)
          · have c5 : 16 ≤ (nI j) := of_decide_eq_true c5
            refine zk_T.adv 11 (f' := (95, [(0, .ref 69), (1, .int a), (2, .int b), (3, .int c), (4, .int d), (5, .int e), (6, .int (nI j)), (7, .int e)], [.int 4, .int (nI j), .int 8, .int 24, .int e, .int (nI k), .ref 70])) (h' := zH (zb (zb v 68 (upd (upd (v 68) 0 0) 2 (nI k))) 69 tp) w t) rfl ?_
            refine zk_T.ob (f' := (96, [(0, .ref 69), (1, .int a), (2, .int b), (3, .int c), (4, .int d), (5, .int e), (6, .int (nI j)), (7, .int e)], [.int ((nI j) - (nI j) / 4 * 4), .int 8, .int 24, .int e, .int (nI k), .ref 70])) (h' := zH (zb (zb v 68 (upd (upd (v 68) 0 0) 2 (nI k))) 69 tp) w t) rfl rfl ?_
            refine zk_T.adv 5 (f' := (103, [(0, .ref 69), (1, .int a), (2, .int b), (3, .int c), (4, .int d), (5, .int e), (6, .int (nI j)), (7, .int e)], [.int ((e >>> ((24 - (8 * ((nI j) - (nI j) / 4 * 4))) &&& 31)) &&& 255), .int (nI k), .ref 70])) (h' := zH (zb (zb v 68 (upd (upd (v 68) 0 0) 2 (nI k))) 69 tp) w t) rfl ?_
            refine zk_T.ob (f' := (104, [(0, .ref 69), (1, .int a), (2, .int b), (3, .int c), (4, .int d), (5, .int e), (6, .int (nI j)), (7, .int e)], [])) (h' := zH (zb (zb v 68 (upd (upd (v 68) 0 0) 2 (nI k))) 69 (upd tp ((nI k)).toNatClampNeg ((e >>> ((24 - (8 * ((nI j) - (nI j) / 4 * 4))) &&& 31)) &&& 255))) w t) rfl (zk_inN (show k < 900 by omega) (by decide)) ?_
            rw [nI_clamp (show k < 2 ^ 31 by omega)]
            refine zk_T.adv 5 (f' := (111, [(0, .ref 69), (1, .int a), (2, .int b), (3, .int c), (4, .int d), (5, .int e), (6, .int (nI j)), (7, .int e)], [.int ((nI k) + 1), .ref 69])) (h' := zH (zb (zb v 68 (upd (upd (v 68) 0 0) 2 (nI k))) 69 (upd tp k ((e >>> ((24 - (8 * ((nI j) - (nI j) / 4 * 4))) &&& 31)) &&& 255))) w t) rfl ?_
            rw [show (nI k) + 1 = nI (k + 1) from nI_add k 1]
            refine zk_T.adv 3 (f' := (23, [(0, .ref 69), (1, .int a), (2, .int b), (3, .int c), (4, .int d), (5, .int e), (6, .int ((nI j) + 1))], [])) (h' := zH (zb (zb v 68 (upd (upd (v 68) 0 0) 2 (nI (k + 1)))) 69 (upd tp k ((e >>> ((24 - (8 * ((nI j) - (nI j) / 4 * 4))) &&& 31)) &&& 255))) w t) rfl ?_
            rw [nI_1]
            simp only [zl_mfeedG, if_pos c2, if_pos c3, if_pos c4, if_pos c5] at hk
            exact hk
          · have c5 : ¬ (16 ≤ (nI j)) := of_decide_eq_false c5
            refine zk_T.adv 12 (f' := (95, [(0, .ref 69), (1, .int a), (2, .int b), (3, .int c), (4, .int d), (5, .int e), (6, .int (nI j)), (7, .int d)], [.int 4, .int (nI j), .int 8, .int 24, .int d, .int (nI k), .ref 70])) (h' := zH (zb (zb v 68 (upd (upd (v 68) 0 0) 2 (nI k))) 69 tp) w t) rfl ?_
            refine zk_T.ob (f' := (96, [(0, .ref 69), (1, .int a), (2, .int b), (3, .int c), (4, .int d), (5, .int e), (6, .int (nI j)), (7, .int d)], [.int ((nI j) - (nI j) / 4 * 4), .int 8, .int 24, .int d, .int (nI k), .ref 70])) (h' := zH (zb (zb v 68 (upd (upd (v 68) 0 0) 2 (nI k))) 69 tp) w t) rfl rfl ?_
            refine zk_T.adv 5 (f' := (103, [(0, .ref 69), (1, .int a), (2, .int b), (3, .int c), (4, .int d), (5, .int e), (6, .int (nI j)), (7, .int d)], [.int ((d >>> ((24 - (8 * ((nI j) - (nI j) / 4 * 4))) &&& 31)) &&& 255), .int (nI k), .ref 70])) (h' := zH (zb (zb v 68 (upd (upd (v 68) 0 0) 2 (nI k))) 69 tp) w t) rfl ?_
            refine zk_T.ob (f' := (104, [(0, .ref 69), (1, .int a), (2, .int b), (3, .int c), (4, .int d), (5, .int e), (6, .int (nI j)), (7, .int d)], [])) (h' := zH (zb (zb v 68 (upd (upd (v 68) 0 0) 2 (nI k))) 69 (upd tp ((nI k)).toNatClampNeg ((d >>> ((24 - (8 * ((nI j) - (nI j) / 4 * 4))) &&& 31)) &&& 255))) w t) rfl (zk_inN (show k < 900 by omega) (by decide)) ?_
            rw [nI_clamp (show k < 2 ^ 31 by omega)]
            refine zk_T.adv 5 (f' := (111, [(0, .ref 69), (1, .int a), (2, .int b), (3, .int c), (4, .int d), (5, .int e), (6, .int (nI j)), (7, .int d)], [.int ((nI k) + 1), .ref 69])) (h' := zH (zb (zb v 68 (upd (upd (v 68) 0 0) 2 (nI k))) 69 (upd tp k ((d >>> ((24 - (8 * ((nI j) - (nI j) / 4 * 4))) &&& 31)) &&& 255))) w t) rfl ?_
            rw [show (nI k) + 1 = nI (k + 1) from nI_add k 1]
            refine zk_T.adv 3 (f' := (23, [(0, .ref 69), (1, .int a), (2, .int b), (3, .int c), (4, .int d), (5, .int e), (6, .int ((nI j) + 1))], [])) (h' := zH (zb (zb v 68 (upd (upd (v 68) 0 0) 2 (nI (k + 1)))) 69 (upd tp k ((d >>> ((24 - (8 * ((nI j) - (nI j) / 4 * 4))) &&& 31)) &&& 255))) w t) rfl ?_
            rw [nI_1]
            simp only [zl_mfeedG, if_pos c2, if_pos c3, if_pos c4, if_neg c5] at hk
            exact hk
        · have c4 : ¬ (12 ≤ (nI j)) := of_decide_eq_false c4
          refine zk_T.adv 12 (f' := (95, [(0, .ref 69), (1, .int a), (2, .int b), (3, .int c), (4, .int d), (5, .int e), (6, .int (nI j)), (7, .int c)], [.int 4, .int (nI j), .int 8, .int 24, .int c, .int (nI k), .ref 70])) (h' := zH (zb (zb v 68 (upd (upd (v 68) 0 0) 2 (nI k))) 69 tp) w t) rfl ?_
          refine zk_T.ob (f' := (96, [(0, .ref 69), (1, .int a), (2, .int b), (3, .int c), (4, .int d), (5, .int e), (6, .int (nI j)), (7, .int c)], [.int ((nI j) - (nI j) / 4 * 4), .int 8, .int 24, .int c, .int (nI k), .ref 70])) (h' := zH (zb (zb v 68 (upd (upd (v 68) 0 0) 2 (nI k))) 69 tp) w t) rfl rfl ?_
          refine zk_T.adv 5 (f' := (103, [(0, .ref 69), (1, .int a), (2, .int b), (3, .int c), (4, .int d), (5, .int e), (6, .int (nI j)), (7, .int c)], [.int ((c >>> ((24 - (8 * ((nI j) - (nI j) / 4 * 4))) &&& 31)) &&& 255), .int (nI k), .ref 70])) (h' := zH (zb (zb v 68 (upd (upd (v 68) 0 0) 2 (nI k))) 69 tp) w t) rfl ?_
          refine zk_T.ob (f' := (104, [(0, .ref 69), (1, .int a), (2, .int b), (3, .int c), (4, .int d), (5, .int e), (6, .int (nI j)), (7, .int c)], [])) (h' := zH (zb (zb v 68 (upd (upd (v 68) 0 0) 2 (nI k))) 69 (upd tp ((nI k)).toNatClampNeg ((c >>> ((24 - (8 * ((nI j) - (nI j) / 4 * 4))) &&& 31)) &&& 255))) w t) rfl (zk_inN (show k < 900 by omega) (by decide)) ?_
          rw [nI_clamp (show k < 2 ^ 31 by omega)]
          refine zk_T.adv 5 (f' := (111, [(0, .ref 69), (1, .int a), (2, .int b), (3, .int c), (4, .int d), (5, .int e), (6, .int (nI j)), (7, .int c)], [.int ((nI k) + 1), .ref 69])) (h' := zH (zb (zb v 68 (upd (upd (v 68) 0 0) 2 (nI k))) 69 (upd tp k ((c >>> ((24 - (8 * ((nI j) - (nI j) / 4 * 4))) &&& 31)) &&& 255))) w t) rfl ?_
          rw [show (nI k) + 1 = nI (k + 1) from nI_add k 1]
          refine zk_T.adv 3 (f' := (23, [(0, .ref 69), (1, .int a), (2, .int b), (3, .int c), (4, .int d), (5, .int e), (6, .int ((nI j) + 1))], [])) (h' := zH (zb (zb v 68 (upd (upd (v 68) 0 0) 2 (nI (k + 1)))) 69 (upd tp k ((c >>> ((24 - (8 * ((nI j) - (nI j) / 4 * 4))) &&& 31)) &&& 255))) w t) rfl ?_
          rw [nI_1]
          simp only [zl_mfeedG, if_pos c2, if_pos c3, if_neg c4] at hk
          exact hk
      · have c3 : ¬ (8 ≤ (nI j)) := of_decide_eq_false c3
        refine zk_T.adv 12 (f' := (95, [(0, .ref 69), (1, .int a), (2, .int b), (3, .int c), (4, .int d), (5, .int e), (6, .int (nI j)), (7, .int b)], [.int 4, .int (nI j), .int 8, .int 24, .int b, .int (nI k), .ref 70])) (h' := zH (zb (zb v 68 (upd (upd (v 68) 0 0) 2 (nI k))) 69 tp) w t) rfl ?_
        refine zk_T.ob (f' := (96, [(0, .ref 69), (1, .int a), (2, .int b), (3, .int c), (4, .int d), (5, .int e), (6, .int (nI j)), (7, .int b)], [.int ((nI j) - (nI j) / 4 * 4), .int 8, .int 24, .int b, .int (nI k), .ref 70])) (h' := zH (zb (zb v 68 (upd (upd (v 68) 0 0) 2 (nI k))) 69 tp) w t) rfl rfl ?_
        refine zk_T.adv 5 (f' := (103, [(0, .ref 69), (1, .int a), (2, .int b), (3, .int c), (4, .int d), (5, .int e), (6, .int (nI j)), (7, .int b)], [.int ((b >>> ((24 - (8 * ((nI j) - (nI j) / 4 * 4))) &&& 31)) &&& 255), .int (nI k), .ref 70])) (h' := zH (zb (zb v 68 (upd (upd (v 68) 0 0) 2 (nI k))) 69 tp) w t) rfl ?_
        refine zk_T.ob (f' := (104, [(0, .ref 69), (1, .int a), (2, .int b), (3, .int c), (4, .int d), (5, .int e), (6, .int (nI j)), (7, .int b)], [])) (h' := zH (zb (zb v 68 (upd (upd (v 68) 0 0) 2 (nI k))) 69 (upd tp ((nI k)).toNatClampNeg ((b >>> ((24 - (8 * ((nI j) - (nI j) / 4 * 4))) &&& 31)) &&& 255))) w t) rfl (zk_inN (show k < 900 by omega) (by decide)) ?_
        rw [nI_clamp (show k < 2 ^ 31 by omega)]
        refine zk_T.adv 5 (f' := (111, [(0, .ref 69), (1, .int a), (2, .int b), (3, .int c), (4, .int d), (5, .int e), (6, .int (nI j)), (7, .int b)], [.int ((nI k) + 1), .ref 69])) (h' := zH (zb (zb v 68 (upd (upd (v 68) 0 0) 2 (nI k))) 69 (upd tp k ((b >>> ((24 - (8 * ((nI j) - (nI j) / 4 * 4))) &&& 31)) &&& 255))) w t) rfl ?_
        rw [show (nI k) + 1 = nI (k + 1) from nI_add k 1]
        refine zk_T.adv 3 (f' := (23, [(0, .ref 69), (1, .int a), (2, .int b), (3, .int c), (4, .int d), (5, .int e), (6, .int ((nI j) + 1))], [])) (h' := zH (zb (zb v 68 (upd (upd (v 68) 0 0) 2 (nI (k + 1)))) 69 (upd tp k ((b >>> ((24 - (8 * ((nI j) - (nI j) / 4 * 4))) &&& 31)) &&& 255))) w t) rfl ?_
        rw [nI_1]
        simp only [zl_mfeedG, if_pos c2, if_neg c3] at hk
        exact hk
    · have c2 : ¬ (4 ≤ (nI j)) := of_decide_eq_false c2
      refine zk_T.adv 12 (f' := (95, [(0, .ref 69), (1, .int a), (2, .int b), (3, .int c), (4, .int d), (5, .int e), (6, .int (nI j)), (7, .int a)], [.int 4, .int (nI j), .int 8, .int 24, .int a, .int (nI k), .ref 70])) (h' := zH (zb (zb v 68 (upd (upd (v 68) 0 0) 2 (nI k))) 69 tp) w t) rfl ?_
      refine zk_T.ob (f' := (96, [(0, .ref 69), (1, .int a), (2, .int b), (3, .int c), (4, .int d), (5, .int e), (6, .int (nI j)), (7, .int a)], [.int ((nI j) - (nI j) / 4 * 4), .int 8, .int 24, .int a, .int (nI k), .ref 70])) (h' := zH (zb (zb v 68 (upd (upd (v 68) 0 0) 2 (nI k))) 69 tp) w t) rfl rfl ?_
      refine zk_T.adv 5 (f' := (103, [(0, .ref 69), (1, .int a), (2, .int b), (3, .int c), (4, .int d), (5, .int e), (6, .int (nI j)), (7, .int a)], [.int ((a >>> ((24 - (8 * ((nI j) - (nI j) / 4 * 4))) &&& 31)) &&& 255), .int (nI k), .ref 70])) (h' := zH (zb (zb v 68 (upd (upd (v 68) 0 0) 2 (nI k))) 69 tp) w t) rfl ?_
      refine zk_T.ob (f' := (104, [(0, .ref 69), (1, .int a), (2, .int b), (3, .int c), (4, .int d), (5, .int e), (6, .int (nI j)), (7, .int a)], [])) (h' := zH (zb (zb v 68 (upd (upd (v 68) 0 0) 2 (nI k))) 69 (upd tp ((nI k)).toNatClampNeg ((a >>> ((24 - (8 * ((nI j) - (nI j) / 4 * 4))) &&& 31)) &&& 255))) w t) rfl (zk_inN (show k < 900 by omega) (by decide)) ?_
      rw [nI_clamp (show k < 2 ^ 31 by omega)]
      refine zk_T.adv 5 (f' := (111, [(0, .ref 69), (1, .int a), (2, .int b), (3, .int c), (4, .int d), (5, .int e), (6, .int (nI j)), (7, .int a)], [.int ((nI k) + 1), .ref 69])) (h' := zH (zb (zb v 68 (upd (upd (v 68) 0 0) 2 (nI k))) 69 (upd tp k ((a >>> ((24 - (8 * ((nI j) - (nI j) / 4 * 4))) &&& 31)) &&& 255))) w t) rfl ?_
      rw [show (nI k) + 1 = nI (k + 1) from nI_add k 1]
      refine zk_T.adv 3 (f' := (23, [(0, .ref 69), (1, .int a), (2, .int b), (3, .int c), (4, .int d), (5, .int e), (6, .int ((nI j) + 1))], [])) (h' := zH (zb (zb v 68 (upd (upd (v 68) 0 0) 2 (nI (k + 1)))) 69 (upd tp k ((a >>> ((24 - (8 * ((nI j) - (nI j) / 4 * 4))) &&& 31)) &&& 255))) w t) rfl ?_
      rw [nI_1]
      simp only [zl_mfeedG, if_neg c2] at hk
      exact hk
  · obtain ⟨k, tp⟩ := s
    show zk_T zk_mt zk_ex Ls xs zm_46 (23, [(0, .ref 69), (1, .int a), (2, .int b), (3, .int c), (4, .int d), (5, .int e), (6, .int (nI (0 + 20)))], []) (zH (zb (zb v 68 (upd (upd (v 68) 0 0) 2 (nI k))) 69 tp) w t) q
    have hp : k + (20 - (0 + 20)) ≤ 900 := hp
    refine zk_T.adv 2 (f' := (27, [(0, .ref 69), (1, .int a), (2, .int b), (3, .int c), (4, .int d), (5, .int e), (6, .int (nI (0 + 20)))], [.int 20, .int (nI (0 + 20))])) (h' := zH (zb (zb v 68 (upd (upd (v 68) 0 0) 2 (nI k))) 69 tp) w t) rfl ?_
    refine zk_T.br (f1 := (120, [(0, .ref 69), (1, .int a), (2, .int b), (3, .int c), (4, .int d), (5, .int e), (6, .int (nI (0 + 20)))], [])) (f2 := (30, [(0, .ref 69), (1, .int a), (2, .int b), (3, .int c), (4, .int d), (5, .int e), (6, .int (nI (0 + 20)))], [])) rfl (fun c1 => ?_) (fun c1 => absurd (by decide) (of_decide_eq_false c1))
    exact hk
  · exact hP0
/-- BasketKeepModel.feed -/
theorem zM_feed_t (a b c d e : Int32) (L : Nat) (hL : v 68 2 = nI L) (hL9 : L ≤ 900) (hf : 900 < L + 20) : zk_Cr zk_mt zk_ex Ls xs 46 [.ref 69, .int a, .int b, .int c, .int d, .int e] (zH v w t) (some (.int (-1)), zH (zb v 68 (upd (v 68) 0 0)) w t) := by
  refine zk_Cr.of (K := zm_46) rfl rfl rfl ?_
  show zk_T zk_mt zk_ex Ls xs zm_46 (0, [(0, .ref 69), (1, .int a), (2, .int b), (3, .int c), (4, .int d), (5, .int e)], []) (zH v w t) _
  refine zk_T.adv 5 (f' := (9, [(0, .ref 69), (1, .int a), (2, .int b), (3, .int c), (4, .int d), (5, .int e)], [.int (v 68 2)])) (h' := zH (zb v 68 (upd (v 68) 0 0)) w t) rfl ?_
  rw [show (v 68 2) = nI L from hL]
  refine zk_T.adv 2 (f' := (12, [(0, .ref 69), (1, .int a), (2, .int b), (3, .int c), (4, .int d), (5, .int e)], [.int ((nI L) + 20)])) (h' := zH (zb v 68 (upd (v 68) 0 0)) w t) rfl ?_
  rw [show (nI L) + 20 = nI (L + 20) from nI_add L 20]
  refine zk_T.adv 1 (f' := (15, [(0, .ref 69), (1, .int a), (2, .int b), (3, .int c), (4, .int d), (5, .int e)], [.int 900, .int (nI (L + 20))])) (h' := zH (zb v 68 (upd (v 68) 0 0)) w t) rfl ?_
  refine zk_T.br (f1 := (20, [(0, .ref 69), (1, .int a), (2, .int b), (3, .int c), (4, .int d), (5, .int e)], [])) (f2 := (18, [(0, .ref 69), (1, .int a), (2, .int b), (3, .int c), (4, .int d), (5, .int e)], [])) rfl (fun c1 => absurd (of_decide_eq_true c1) (show ¬ nI (L + 20) ≤ 900 from nI_ge hf (by omega))) (fun c1 => ?_)
  refine zk_T.adv 1 (f' := (19, [(0, .ref 69), (1, .int a), (2, .int b), (3, .int c), (4, .int d), (5, .int e)], [.int (-1)])) (h' := zH (zb v 68 (upd (v 68) 0 0)) w t) rfl ?_
  exact zk_T.rt rfl rfl (by rfl)
/-- BasketKeepModel.feed -/
theorem zM_feed_f (a b c d e : Int32) (L : Nat) (hf : L + 20 ≤ 900) : zk_Cr zk_mt zk_ex Ls xs 46 [.ref 69, .int a, .int b, .int c, .int d, .int e] (zH (zb v 68 (upd (v 68) 2 (nI L))) w t) (some (.int (nI ((zf (zl_mfeedG a b c d e) 20 0 (L, v 69)).1))), zH (zb (zb v 68 (upd (upd (v 68) 0 0) 2 (nI ((zf (zl_mfeedG a b c d e) 20 0 (L, v 69)).1)))) 69 ((zf (zl_mfeedG a b c d e) 20 0 (L, v 69)).2)) w t) := by
  refine zk_Cr.of (K := zm_46) rfl rfl rfl ?_
  show zk_T zk_mt zk_ex Ls xs zm_46 (0, [(0, .ref 69), (1, .int a), (2, .int b), (3, .int c), (4, .int d), (5, .int e)], []) (zH (zb v 68 (upd (v 68) 2 (nI L))) w t) _
  refine zk_T.adv 7 (f' := (12, [(0, .ref 69), (1, .int a), (2, .int b), (3, .int c), (4, .int d), (5, .int e)], [.int ((nI L) + 20)])) (h' := zH (zb v 68 (upd (upd (v 68) 0 0) 2 (nI L))) w t) rfl ?_
  rw [show (nI L) + 20 = nI (L + 20) from nI_add L 20]
  refine zk_T.adv 1 (f' := (15, [(0, .ref 69), (1, .int a), (2, .int b), (3, .int c), (4, .int d), (5, .int e)], [.int 900, .int (nI (L + 20))])) (h' := zH (zb v 68 (upd (upd (v 68) 0 0) 2 (nI L))) w t) rfl ?_
  refine zk_T.br (f1 := (20, [(0, .ref 69), (1, .int a), (2, .int b), (3, .int c), (4, .int d), (5, .int e)], [])) (f2 := (18, [(0, .ref 69), (1, .int a), (2, .int b), (3, .int c), (4, .int d), (5, .int e)], [])) rfl (fun c1 => ?_) (fun c1 => absurd (show nI (L + 20) ≤ 900 from nI_le hf (by decide)) (of_decide_eq_false c1))
  refine zk_T.adv 2 (f' := (23, [(0, .ref 69), (1, .int a), (2, .int b), (3, .int c), (4, .int d), (5, .int e), (6, .int 0)], [])) (h' := zH (zb v 68 (upd (upd (v 68) 0 0) 2 (nI L))) w t) rfl ?_
  refine zl_mfeed (v := v) (w := w) (t := t) a b c d e (L, v 69) _ hf ?_
  show zk_T zk_mt zk_ex Ls xs zm_46 (120, [(0, .ref 69), (1, .int a), (2, .int b), (3, .int c), (4, .int d), (5, .int e), (6, .int (nI (0 + 20)))], []) (zH (zb (zb v 68 (upd (upd (v 68) 0 0) 2 (nI ((zf (zl_mfeedG a b c d e) 20 0 (L, v 69)).1)))) 69 ((zf (zl_mfeedG a b c d e) 20 0 (L, v 69)).2)) w t) _
  refine zk_T.adv 2 (f' := (124, [(0, .ref 69), (1, .int a), (2, .int b), (3, .int c), (4, .int d), (5, .int e), (6, .int (nI (0 + 20)))], [.int (nI ((zf (zl_mfeedG a b c d e) 20 0 (L, v 69)).1))])) (h' := zH (zb (zb v 68 (upd (upd (v 68) 0 0) 2 (nI ((zf (zl_mfeedG a b c d e) 20 0 (L, v 69)).1)))) 69 ((zf (zl_mfeedG a b c d e) 20 0 (L, v 69)).2)) w t) rfl ?_
  exact zk_T.rt rfl rfl (by rfl)
end Z56
