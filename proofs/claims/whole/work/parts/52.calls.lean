/-! contracts: the calls of the reference -/
theorem zk_ah1 (n : Nat) (hn : n ≤ 60) : zr_maheadWhy 1 (nI n) = 0 := by
  unfold zr_maheadWhy zr_mwithin
  rw [if_neg (nI_pos (show n < 2 ^ 31 by omega)), if_neg (show ¬ (60 : Int32) < nI n from nI_nlt hn (by decide))]
  rfl
section Z52
variable {Ls : Nat} {xs : Nat → Int32} {v : Nat → Nat → Int32} {w : Nat → Nat → Int64} {t : zk_H}
/-- BasketKeepModel.fault -/
theorem zM_fault  : zk_Cr zk_mt zk_ex Ls xs 45 [.ref 69] (zH v w t) (some (.int (v 68 9)), zH (zb v 68 (upd (v 68) 0 0)) w t) := by
  refine zk_Cr.of (K := zm_45) rfl rfl rfl ?_
  show zk_T zk_mt zk_ex Ls xs zm_45 (0, [(0, .ref 69)], []) (zH v w t) _
  refine zk_T.adv 5 (f' := (9, [(0, .ref 69)], [.int (v 68 9)])) (h' := zH (zb v 68 (upd (v 68) 0 0)) w t) rfl ?_
  exact zk_T.rt rfl rfl (by rfl)
/-- BasketKeepModel.trouble -/
theorem zM_trouble  : zk_Cr zk_mt zk_ex Ls xs 63 [.ref 69] (zH v w t) (some (.int (v 68 11)), zH (zb v 68 (upd (v 68) 0 0)) w t) := by
  refine zk_Cr.of (K := zm_63) rfl rfl rfl ?_
  show zk_T zk_mt zk_ex Ls xs zm_63 (0, [(0, .ref 69)], []) (zH v w t) _
  refine zk_T.adv 5 (f' := (9, [(0, .ref 69)], [.int (v 68 11)])) (h' := zH (zb v 68 (upd (v 68) 0 0)) w t) rfl ?_
  exact zk_T.rt rfl rfl (by rfl)
/-- BasketKeepModel.thrown -/
theorem zM_thrown  : zk_Cr zk_mt zk_ex Ls xs 62 [.ref 69] (zH v w t) (some (.int (v 68 0)), zH v w t) := by
  refine zk_Cr.of (K := zm_62) rfl rfl rfl ?_
  show zk_T zk_mt zk_ex Ls xs zm_62 (0, [(0, .ref 69)], []) (zH v w t) _
  refine zk_T.adv 2 (f' := (4, [(0, .ref 69)], [.int (v 68 0)])) (h' := zH v w t) rfl ?_
  exact zk_T.rt rfl rfl (by rfl)
def zr_mwhere (tr pl : Int32) : Int32 := if tr = 4 then pl else (-1)
/-- BasketKeepModel.where -/
theorem zM_where  : zk_Cr zk_mt zk_ex Ls xs 65 [.ref 69] (zH v w t) (some (.int (zr_mwhere (v 68 11) (v 68 10))), zH (zb v 68 (upd (v 68) 0 0)) w t) := by
  refine zk_Cr.of (K := zm_65) rfl rfl rfl ?_
  show zk_T zk_mt zk_ex Ls xs zm_65 (0, [(0, .ref 69)], []) (zH v w t) _
  refine zk_T.adv 6 (f' := (10, [(0, .ref 69)], [.int 4, .int (v 68 11)])) (h' := zH (zb v 68 (upd (v 68) 0 0)) w t) rfl ?_
  refine zk_T.br (f1 := (13, [(0, .ref 69)], [])) (f2 := (20, [(0, .ref 69)], [])) rfl (fun c1 => ?_) (fun c1 => ?_)
  · have c1 : (v 68 11) = 4 := of_decide_eq_true c1
    refine zk_T.adv 3 (f' := (21, [(0, .ref 69)], [.int (v 68 10)])) (h' := zH (zb v 68 (upd (v 68) 0 0)) w t) rfl ?_
    exact zk_T.rt rfl rfl (by simp only [zr_mwhere, if_pos c1])
  · have c1 : ¬ ((v 68 11) = 4) := of_decide_eq_false c1
    refine zk_T.adv 1 (f' := (21, [(0, .ref 69)], [.int (-1)])) (h' := zH (zb v 68 (upd (v 68) 0 0)) w t) rfl ?_
    exact zk_T.rt rfl rfl (by simp only [zr_mwhere, if_neg c1])
/-- BasketKeepModel.danger -/
theorem zM_danger_t (x k : Int32) (hg : zr_misX (v 68 14) (v 71 1) x = 0) : zk_Cr zk_mt zk_ex Ls xs 165 [.ref 69, .int x, .int k] (zH v w t) (some (.int (-1)), zH (zb v 68 (upd (upd (v 68) 0 0) 11 1)) w t) := by
  refine zk_Cr.of (K := zm_165) rfl rfl rfl ?_
  show zk_T zk_mt zk_ex Ls xs zm_165 (0, [(0, .ref 69), (1, .int x), (2, .int k)], []) (zH v w t) _
  refine zk_T.adv 1 (f' := (1, [(0, .ref 69), (1, .int x), (2, .int k)], [.ref 69])) (h' := zH v w t) rfl ?_
  refine zk_T.cl (v := none) (h' := zH (zb v 68 (upd (upd (v 68) 0 0) 11 0)) w t) rfl (zs_manew (v := v) (w := w)) ?_
  show zk_T zk_mt zk_ex Ls xs zm_165 (4, [(0, .ref 69), (1, .int x), (2, .int k)], []) (zH (zb v 68 (upd (upd (v 68) 0 0) 11 0)) w t) _
  refine zk_T.adv 2 (f' := (6, [(0, .ref 69), (1, .int x), (2, .int k)], [.int x, .ref 69])) (h' := zH (zb v 68 (upd (upd (v 68) 0 0) 11 0)) w t) rfl ?_
  refine zk_T.cl (v := some (.int 0)) (h' := zH (zb v 68 (upd (upd (v 68) 0 0) 11 0)) w t) rfl (by have ee_ : zk_Cr zk_mt zk_ex Ls xs 116 [.ref 69, .int x] (zH (zb v 68 (upd (upd (v 68) 0 0) 11 0)) w t) (some (.int (zr_misX (v 68 14) (v 71 1) x)), zH (zb v 68 (upd (upd (v 68) 0 0) 11 0)) w t) := zs_misDanger (v := (zb v 68 (upd (upd (v 68) 0 0) 11 0))) (w := w) x; rw [show (zr_misX (v 68 14) (v 71 1) x) = 0 from hg] at ee_; exact ee_) ?_
  show zk_T zk_mt zk_ex Ls xs zm_165 (9, [(0, .ref 69), (1, .int x), (2, .int k)], [.int 0]) (zH (zb v 68 (upd (upd (v 68) 0 0) 11 0)) w t) _
  refine zk_T.br (f1 := (21, [(0, .ref 69), (1, .int x), (2, .int k)], [])) (f2 := (12, [(0, .ref 69), (1, .int x), (2, .int k)], [])) rfl (fun c1 => ?_) (fun c1 => absurd (by decide) (of_decide_eq_false c1))
  refine zk_T.adv 2 (f' := (23, [(0, .ref 69), (1, .int x), (2, .int k)], [.int 1, .ref 69])) (h' := zH (zb v 68 (upd (upd (v 68) 0 0) 11 0)) w t) rfl ?_
  refine zk_T.cl (v := some (.int (-1))) (h' := zH (zb v 68 (upd (upd (v 68) 0 0) 11 1)) w t) rfl (zs_mno (v := (zb v 68 (upd (upd (v 68) 0 0) 11 0))) (w := w) 1) ?_
  show zk_T zk_mt zk_ex Ls xs zm_165 (26, [(0, .ref 69), (1, .int x), (2, .int k)], [.int (-1)]) (zH (zb v 68 (upd (upd (v 68) 0 0) 11 1)) w t) _
  exact zk_T.rt rfl rfl (by rfl)
/-- BasketKeepModel.danger -/
theorem zM_danger_d (x k : Int32) (hg : zr_misX (v 68 14) (v 71 1) x = 1) (hw : zr_mwithin k 0 3 = 0) : zk_Cr zk_mt zk_ex Ls xs 165 [.ref 69, .int x, .int k] (zH v w t) (some (.int (-1)), zH (zb v 68 (upd (upd (v 68) 0 0) 11 1)) w t) := by
  refine zk_Cr.of (K := zm_165) rfl rfl rfl ?_
  show zk_T zk_mt zk_ex Ls xs zm_165 (0, [(0, .ref 69), (1, .int x), (2, .int k)], []) (zH v w t) _
  refine zk_T.adv 1 (f' := (1, [(0, .ref 69), (1, .int x), (2, .int k)], [.ref 69])) (h' := zH v w t) rfl ?_
  refine zk_T.cl (v := none) (h' := zH (zb v 68 (upd (upd (v 68) 0 0) 11 0)) w t) rfl (zs_manew (v := v) (w := w)) ?_
  show zk_T zk_mt zk_ex Ls xs zm_165 (4, [(0, .ref 69), (1, .int x), (2, .int k)], []) (zH (zb v 68 (upd (upd (v 68) 0 0) 11 0)) w t) _
  refine zk_T.adv 2 (f' := (6, [(0, .ref 69), (1, .int x), (2, .int k)], [.int x, .ref 69])) (h' := zH (zb v 68 (upd (upd (v 68) 0 0) 11 0)) w t) rfl ?_
  refine zk_T.cl (v := some (.int 1)) (h' := zH (zb v 68 (upd (upd (v 68) 0 0) 11 0)) w t) rfl (by have ee_ : zk_Cr zk_mt zk_ex Ls xs 116 [.ref 69, .int x] (zH (zb v 68 (upd (upd (v 68) 0 0) 11 0)) w t) (some (.int (zr_misX (v 68 14) (v 71 1) x)), zH (zb v 68 (upd (upd (v 68) 0 0) 11 0)) w t) := zs_misDanger (v := (zb v 68 (upd (upd (v 68) 0 0) 11 0))) (w := w) x; rw [show (zr_misX (v 68 14) (v 71 1) x) = 1 from hg] at ee_; exact ee_) ?_
  show zk_T zk_mt zk_ex Ls xs zm_165 (9, [(0, .ref 69), (1, .int x), (2, .int k)], [.int 1]) (zH (zb v 68 (upd (upd (v 68) 0 0) 11 0)) w t) _
  refine zk_T.br (f1 := (21, [(0, .ref 69), (1, .int x), (2, .int k)], [])) (f2 := (12, [(0, .ref 69), (1, .int x), (2, .int k)], [])) rfl (fun c1 => absurd (of_decide_eq_true c1) (by decide)) (fun c1 => ?_)
  refine zk_T.adv 3 (f' := (15, [(0, .ref 69), (1, .int x), (2, .int k)], [.int 3, .int 0, .int k])) (h' := zH (zb v 68 (upd (upd (v 68) 0 0) 11 0)) w t) rfl ?_
  refine zk_T.cl (v := some (.int 0)) (h' := zH (zb v 68 (upd (upd (v 68) 0 0) 11 0)) w t) rfl (by have ee_ : zk_Cr zk_mt zk_ex Ls xs 67 [.int k, .int 0, .int 3] (zH (zb v 68 (upd (upd (v 68) 0 0) 11 0)) w t) (some (.int (zr_mwithin k 0 3)), zH (zb v 68 (upd (upd (v 68) 0 0) 11 0)) w t) := zs_mwithin (v := (zb v 68 (upd (upd (v 68) 0 0) 11 0))) (w := w) k 0 3; rw [show (zr_mwithin k 0 3) = 0 from hw] at ee_; exact ee_) ?_
  show zk_T zk_mt zk_ex Ls xs zm_165 (18, [(0, .ref 69), (1, .int x), (2, .int k)], [.int 0]) (zH (zb v 68 (upd (upd (v 68) 0 0) 11 0)) w t) _
  refine zk_T.br (f1 := (21, [(0, .ref 69), (1, .int x), (2, .int k)], [])) (f2 := (27, [(0, .ref 69), (1, .int x), (2, .int k)], [])) rfl (fun c2 => ?_) (fun c2 => absurd (by decide) (of_decide_eq_false c2))
  refine zk_T.adv 2 (f' := (23, [(0, .ref 69), (1, .int x), (2, .int k)], [.int 1, .ref 69])) (h' := zH (zb v 68 (upd (upd (v 68) 0 0) 11 0)) w t) rfl ?_
  refine zk_T.cl (v := some (.int (-1))) (h' := zH (zb v 68 (upd (upd (v 68) 0 0) 11 1)) w t) rfl (zs_mno (v := (zb v 68 (upd (upd (v 68) 0 0) 11 0))) (w := w) 1) ?_
  show zk_T zk_mt zk_ex Ls xs zm_165 (26, [(0, .ref 69), (1, .int x), (2, .int k)], [.int (-1)]) (zH (zb v 68 (upd (upd (v 68) 0 0) 11 1)) w t) _
  exact zk_T.rt rfl rfl (by rfl)
/-- BasketKeepModel.maker -/
theorem zM_maker_t (x k : Int32) (hg : zr_misX (v 68 14) (v 71 2) x = 0) : zk_Cr zk_mt zk_ex Ls xs 167 [.ref 69, .int x, .int k] (zH v w t) (some (.int (-1)), zH (zb v 68 (upd (upd (v 68) 0 0) 11 1)) w t) := by
  refine zk_Cr.of (K := zm_167) rfl rfl rfl ?_
  show zk_T zk_mt zk_ex Ls xs zm_167 (0, [(0, .ref 69), (1, .int x), (2, .int k)], []) (zH v w t) _
  refine zk_T.adv 1 (f' := (1, [(0, .ref 69), (1, .int x), (2, .int k)], [.ref 69])) (h' := zH v w t) rfl ?_
  refine zk_T.cl (v := none) (h' := zH (zb v 68 (upd (upd (v 68) 0 0) 11 0)) w t) rfl (zs_manew (v := v) (w := w)) ?_
  show zk_T zk_mt zk_ex Ls xs zm_167 (4, [(0, .ref 69), (1, .int x), (2, .int k)], []) (zH (zb v 68 (upd (upd (v 68) 0 0) 11 0)) w t) _
  refine zk_T.adv 2 (f' := (6, [(0, .ref 69), (1, .int x), (2, .int k)], [.int x, .ref 69])) (h' := zH (zb v 68 (upd (upd (v 68) 0 0) 11 0)) w t) rfl ?_
  refine zk_T.cl (v := some (.int 0)) (h' := zH (zb v 68 (upd (upd (v 68) 0 0) 11 0)) w t) rfl (by have ee_ : zk_Cr zk_mt zk_ex Ls xs 118 [.ref 69, .int x] (zH (zb v 68 (upd (upd (v 68) 0 0) 11 0)) w t) (some (.int (zr_misX (v 68 14) (v 71 2) x)), zH (zb v 68 (upd (upd (v 68) 0 0) 11 0)) w t) := zs_misMaker (v := (zb v 68 (upd (upd (v 68) 0 0) 11 0))) (w := w) x; rw [show (zr_misX (v 68 14) (v 71 2) x) = 0 from hg] at ee_; exact ee_) ?_
  show zk_T zk_mt zk_ex Ls xs zm_167 (9, [(0, .ref 69), (1, .int x), (2, .int k)], [.int 0]) (zH (zb v 68 (upd (upd (v 68) 0 0) 11 0)) w t) _
  refine zk_T.br (f1 := (21, [(0, .ref 69), (1, .int x), (2, .int k)], [])) (f2 := (12, [(0, .ref 69), (1, .int x), (2, .int k)], [])) rfl (fun c1 => ?_) (fun c1 => absurd (by decide) (of_decide_eq_false c1))
  refine zk_T.adv 2 (f' := (23, [(0, .ref 69), (1, .int x), (2, .int k)], [.int 1, .ref 69])) (h' := zH (zb v 68 (upd (upd (v 68) 0 0) 11 0)) w t) rfl ?_
  refine zk_T.cl (v := some (.int (-1))) (h' := zH (zb v 68 (upd (upd (v 68) 0 0) 11 1)) w t) rfl (zs_mno (v := (zb v 68 (upd (upd (v 68) 0 0) 11 0))) (w := w) 1) ?_
  show zk_T zk_mt zk_ex Ls xs zm_167 (26, [(0, .ref 69), (1, .int x), (2, .int k)], [.int (-1)]) (zH (zb v 68 (upd (upd (v 68) 0 0) 11 1)) w t) _
  exact zk_T.rt rfl rfl (by rfl)
/-- BasketKeepModel.maker -/
theorem zM_maker_d (x k : Int32) (hg : zr_misX (v 68 14) (v 71 2) x = 1) (hw : zr_mwithin k 0 3 = 0) : zk_Cr zk_mt zk_ex Ls xs 167 [.ref 69, .int x, .int k] (zH v w t) (some (.int (-1)), zH (zb v 68 (upd (upd (v 68) 0 0) 11 1)) w t) := by
  refine zk_Cr.of (K := zm_167) rfl rfl rfl ?_
  show zk_T zk_mt zk_ex Ls xs zm_167 (0, [(0, .ref 69), (1, .int x), (2, .int k)], []) (zH v w t) _
  refine zk_T.adv 1 (f' := (1, [(0, .ref 69), (1, .int x), (2, .int k)], [.ref 69])) (h' := zH v w t) rfl ?_
  refine zk_T.cl (v := none) (h' := zH (zb v 68 (upd (upd (v 68) 0 0) 11 0)) w t) rfl (zs_manew (v := v) (w := w)) ?_
  show zk_T zk_mt zk_ex Ls xs zm_167 (4, [(0, .ref 69), (1, .int x), (2, .int k)], []) (zH (zb v 68 (upd (upd (v 68) 0 0) 11 0)) w t) _
  refine zk_T.adv 2 (f' := (6, [(0, .ref 69), (1, .int x), (2, .int k)], [.int x, .ref 69])) (h' := zH (zb v 68 (upd (upd (v 68) 0 0) 11 0)) w t) rfl ?_
  refine zk_T.cl (v := some (.int 1)) (h' := zH (zb v 68 (upd (upd (v 68) 0 0) 11 0)) w t) rfl (by have ee_ : zk_Cr zk_mt zk_ex Ls xs 118 [.ref 69, .int x] (zH (zb v 68 (upd (upd (v 68) 0 0) 11 0)) w t) (some (.int (zr_misX (v 68 14) (v 71 2) x)), zH (zb v 68 (upd (upd (v 68) 0 0) 11 0)) w t) := zs_misMaker (v := (zb v 68 (upd (upd (v 68) 0 0) 11 0))) (w := w) x; rw [show (zr_misX (v 68 14) (v 71 2) x) = 1 from hg] at ee_; exact ee_) ?_
  show zk_T zk_mt zk_ex Ls xs zm_167 (9, [(0, .ref 69), (1, .int x), (2, .int k)], [.int 1]) (zH (zb v 68 (upd (upd (v 68) 0 0) 11 0)) w t) _
  refine zk_T.br (f1 := (21, [(0, .ref 69), (1, .int x), (2, .int k)], [])) (f2 := (12, [(0, .ref 69), (1, .int x), (2, .int k)], [])) rfl (fun c1 => absurd (of_decide_eq_true c1) (by decide)) (fun c1 => ?_)
  refine zk_T.adv 3 (f' := (15, [(0, .ref 69), (1, .int x), (2, .int k)], [.int 3, .int 0, .int k])) (h' := zH (zb v 68 (upd (upd (v 68) 0 0) 11 0)) w t) rfl ?_
  refine zk_T.cl (v := some (.int 0)) (h' := zH (zb v 68 (upd (upd (v 68) 0 0) 11 0)) w t) rfl (by have ee_ : zk_Cr zk_mt zk_ex Ls xs 67 [.int k, .int 0, .int 3] (zH (zb v 68 (upd (upd (v 68) 0 0) 11 0)) w t) (some (.int (zr_mwithin k 0 3)), zH (zb v 68 (upd (upd (v 68) 0 0) 11 0)) w t) := zs_mwithin (v := (zb v 68 (upd (upd (v 68) 0 0) 11 0))) (w := w) k 0 3; rw [show (zr_mwithin k 0 3) = 0 from hw] at ee_; exact ee_) ?_
  show zk_T zk_mt zk_ex Ls xs zm_167 (18, [(0, .ref 69), (1, .int x), (2, .int k)], [.int 0]) (zH (zb v 68 (upd (upd (v 68) 0 0) 11 0)) w t) _
  refine zk_T.br (f1 := (21, [(0, .ref 69), (1, .int x), (2, .int k)], [])) (f2 := (27, [(0, .ref 69), (1, .int x), (2, .int k)], [])) rfl (fun c2 => ?_) (fun c2 => absurd (by decide) (of_decide_eq_false c2))
  refine zk_T.adv 2 (f' := (23, [(0, .ref 69), (1, .int x), (2, .int k)], [.int 1, .ref 69])) (h' := zH (zb v 68 (upd (upd (v 68) 0 0) 11 0)) w t) rfl ?_
  refine zk_T.cl (v := some (.int (-1))) (h' := zH (zb v 68 (upd (upd (v 68) 0 0) 11 1)) w t) rfl (zs_mno (v := (zb v 68 (upd (upd (v 68) 0 0) 11 0))) (w := w) 1) ?_
  show zk_T zk_mt zk_ex Ls xs zm_167 (26, [(0, .ref 69), (1, .int x), (2, .int k)], [.int (-1)]) (zH (zb v 68 (upd (upd (v 68) 0 0) 11 1)) w t) _
  exact zk_T.rt rfl rfl (by rfl)
/-- BasketKeepModel.good -/
theorem zM_good_t (x k : Int32) (hg : zr_misX (v 68 14) (v 71 3) x = 0) : zk_Cr zk_mt zk_ex Ls xs 166 [.ref 69, .int x, .int k] (zH v w t) (some (.int (-1)), zH (zb v 68 (upd (upd (v 68) 0 0) 11 1)) w t) := by
  refine zk_Cr.of (K := zm_166) rfl rfl rfl ?_
  show zk_T zk_mt zk_ex Ls xs zm_166 (0, [(0, .ref 69), (1, .int x), (2, .int k)], []) (zH v w t) _
  refine zk_T.adv 1 (f' := (1, [(0, .ref 69), (1, .int x), (2, .int k)], [.ref 69])) (h' := zH v w t) rfl ?_
  refine zk_T.cl (v := none) (h' := zH (zb v 68 (upd (upd (v 68) 0 0) 11 0)) w t) rfl (zs_manew (v := v) (w := w)) ?_
  show zk_T zk_mt zk_ex Ls xs zm_166 (4, [(0, .ref 69), (1, .int x), (2, .int k)], []) (zH (zb v 68 (upd (upd (v 68) 0 0) 11 0)) w t) _
  refine zk_T.adv 2 (f' := (6, [(0, .ref 69), (1, .int x), (2, .int k)], [.int x, .ref 69])) (h' := zH (zb v 68 (upd (upd (v 68) 0 0) 11 0)) w t) rfl ?_
  refine zk_T.cl (v := some (.int 0)) (h' := zH (zb v 68 (upd (upd (v 68) 0 0) 11 0)) w t) rfl (by have ee_ : zk_Cr zk_mt zk_ex Ls xs 117 [.ref 69, .int x] (zH (zb v 68 (upd (upd (v 68) 0 0) 11 0)) w t) (some (.int (zr_misX (v 68 14) (v 71 3) x)), zH (zb v 68 (upd (upd (v 68) 0 0) 11 0)) w t) := zs_misGood (v := (zb v 68 (upd (upd (v 68) 0 0) 11 0))) (w := w) x; rw [show (zr_misX (v 68 14) (v 71 3) x) = 0 from hg] at ee_; exact ee_) ?_
  show zk_T zk_mt zk_ex Ls xs zm_166 (9, [(0, .ref 69), (1, .int x), (2, .int k)], [.int 0]) (zH (zb v 68 (upd (upd (v 68) 0 0) 11 0)) w t) _
  refine zk_T.br (f1 := (21, [(0, .ref 69), (1, .int x), (2, .int k)], [])) (f2 := (12, [(0, .ref 69), (1, .int x), (2, .int k)], [])) rfl (fun c1 => ?_) (fun c1 => absurd (by decide) (of_decide_eq_false c1))
  refine zk_T.adv 2 (f' := (23, [(0, .ref 69), (1, .int x), (2, .int k)], [.int 1, .ref 69])) (h' := zH (zb v 68 (upd (upd (v 68) 0 0) 11 0)) w t) rfl ?_
  refine zk_T.cl (v := some (.int (-1))) (h' := zH (zb v 68 (upd (upd (v 68) 0 0) 11 1)) w t) rfl (zs_mno (v := (zb v 68 (upd (upd (v 68) 0 0) 11 0))) (w := w) 1) ?_
  show zk_T zk_mt zk_ex Ls xs zm_166 (26, [(0, .ref 69), (1, .int x), (2, .int k)], [.int (-1)]) (zH (zb v 68 (upd (upd (v 68) 0 0) 11 1)) w t) _
  exact zk_T.rt rfl rfl (by rfl)
/-- BasketKeepModel.good -/
theorem zM_good_d (x k : Int32) (hg : zr_misX (v 68 14) (v 71 3) x = 1) (hw : zr_mwithin k 0 3 = 0) : zk_Cr zk_mt zk_ex Ls xs 166 [.ref 69, .int x, .int k] (zH v w t) (some (.int (-1)), zH (zb v 68 (upd (upd (v 68) 0 0) 11 1)) w t) := by
  refine zk_Cr.of (K := zm_166) rfl rfl rfl ?_
  show zk_T zk_mt zk_ex Ls xs zm_166 (0, [(0, .ref 69), (1, .int x), (2, .int k)], []) (zH v w t) _
  refine zk_T.adv 1 (f' := (1, [(0, .ref 69), (1, .int x), (2, .int k)], [.ref 69])) (h' := zH v w t) rfl ?_
  refine zk_T.cl (v := none) (h' := zH (zb v 68 (upd (upd (v 68) 0 0) 11 0)) w t) rfl (zs_manew (v := v) (w := w)) ?_
  show zk_T zk_mt zk_ex Ls xs zm_166 (4, [(0, .ref 69), (1, .int x), (2, .int k)], []) (zH (zb v 68 (upd (upd (v 68) 0 0) 11 0)) w t) _
  refine zk_T.adv 2 (f' := (6, [(0, .ref 69), (1, .int x), (2, .int k)], [.int x, .ref 69])) (h' := zH (zb v 68 (upd (upd (v 68) 0 0) 11 0)) w t) rfl ?_
  refine zk_T.cl (v := some (.int 1)) (h' := zH (zb v 68 (upd (upd (v 68) 0 0) 11 0)) w t) rfl (by have ee_ : zk_Cr zk_mt zk_ex Ls xs 117 [.ref 69, .int x] (zH (zb v 68 (upd (upd (v 68) 0 0) 11 0)) w t) (some (.int (zr_misX (v 68 14) (v 71 3) x)), zH (zb v 68 (upd (upd (v 68) 0 0) 11 0)) w t) := zs_misGood (v := (zb v 68 (upd (upd (v 68) 0 0) 11 0))) (w := w) x; rw [show (zr_misX (v 68 14) (v 71 3) x) = 1 from hg] at ee_; exact ee_) ?_
  show zk_T zk_mt zk_ex Ls xs zm_166 (9, [(0, .ref 69), (1, .int x), (2, .int k)], [.int 1]) (zH (zb v 68 (upd (upd (v 68) 0 0) 11 0)) w t) _
  refine zk_T.br (f1 := (21, [(0, .ref 69), (1, .int x), (2, .int k)], [])) (f2 := (12, [(0, .ref 69), (1, .int x), (2, .int k)], [])) rfl (fun c1 => absurd (of_decide_eq_true c1) (by decide)) (fun c1 => ?_)
  refine zk_T.adv 3 (f' := (15, [(0, .ref 69), (1, .int x), (2, .int k)], [.int 3, .int 0, .int k])) (h' := zH (zb v 68 (upd (upd (v 68) 0 0) 11 0)) w t) rfl ?_
  refine zk_T.cl (v := some (.int 0)) (h' := zH (zb v 68 (upd (upd (v 68) 0 0) 11 0)) w t) rfl (by have ee_ : zk_Cr zk_mt zk_ex Ls xs 67 [.int k, .int 0, .int 3] (zH (zb v 68 (upd (upd (v 68) 0 0) 11 0)) w t) (some (.int (zr_mwithin k 0 3)), zH (zb v 68 (upd (upd (v 68) 0 0) 11 0)) w t) := zs_mwithin (v := (zb v 68 (upd (upd (v 68) 0 0) 11 0))) (w := w) k 0 3; rw [show (zr_mwithin k 0 3) = 0 from hw] at ee_; exact ee_) ?_
  show zk_T zk_mt zk_ex Ls xs zm_166 (18, [(0, .ref 69), (1, .int x), (2, .int k)], [.int 0]) (zH (zb v 68 (upd (upd (v 68) 0 0) 11 0)) w t) _
  refine zk_T.br (f1 := (21, [(0, .ref 69), (1, .int x), (2, .int k)], [])) (f2 := (27, [(0, .ref 69), (1, .int x), (2, .int k)], [])) rfl (fun c2 => ?_) (fun c2 => absurd (by decide) (of_decide_eq_false c2))
  refine zk_T.adv 2 (f' := (23, [(0, .ref 69), (1, .int x), (2, .int k)], [.int 1, .ref 69])) (h' := zH (zb v 68 (upd (upd (v 68) 0 0) 11 0)) w t) rfl ?_
  refine zk_T.cl (v := some (.int (-1))) (h' := zH (zb v 68 (upd (upd (v 68) 0 0) 11 1)) w t) rfl (zs_mno (v := (zb v 68 (upd (upd (v 68) 0 0) 11 0))) (w := w) 1) ?_
  show zk_T zk_mt zk_ex Ls xs zm_166 (26, [(0, .ref 69), (1, .int x), (2, .int k)], [.int (-1)]) (zH (zb v 68 (upd (upd (v 68) 0 0) 11 1)) w t) _
  exact zk_T.rt rfl rfl (by rfl)
/-- BasketKeepModel.danger -/
theorem zM_danger_0 (d : Nat) (hd : d < 8) (hg : zr_misX (v 68 14) (v 71 1) (nI d) = 1) : zk_Cr zk_mt zk_ex Ls xs 165 [.ref 69, .int (nI d), .int 0] (zH v w t) (some (.int (v 71 ((7 + (2 * d)) + 0))), zH (zb v 68 (upd (upd (v 68) 0 0) 11 0)) w t) := by
  refine zk_Cr.of (K := zm_165) rfl rfl rfl ?_
  show zk_T zk_mt zk_ex Ls xs zm_165 (0, [(0, .ref 69), (1, .int (nI d)), (2, .int 0)], []) (zH v w t) _
  refine zk_T.adv 1 (f' := (1, [(0, .ref 69), (1, .int (nI d)), (2, .int 0)], [.ref 69])) (h' := zH v w t) rfl ?_
  refine zk_T.cl (v := none) (h' := zH (zb v 68 (upd (upd (v 68) 0 0) 11 0)) w t) rfl (zs_manew (v := v) (w := w)) ?_
  show zk_T zk_mt zk_ex Ls xs zm_165 (4, [(0, .ref 69), (1, .int (nI d)), (2, .int 0)], []) (zH (zb v 68 (upd (upd (v 68) 0 0) 11 0)) w t) _
  refine zk_T.adv 2 (f' := (6, [(0, .ref 69), (1, .int (nI d)), (2, .int 0)], [.int (nI d), .ref 69])) (h' := zH (zb v 68 (upd (upd (v 68) 0 0) 11 0)) w t) rfl ?_
  refine zk_T.cl (v := some (.int 1)) (h' := zH (zb v 68 (upd (upd (v 68) 0 0) 11 0)) w t) rfl (by have ee_ : zk_Cr zk_mt zk_ex Ls xs 116 [.ref 69, .int (nI d)] (zH (zb v 68 (upd (upd (v 68) 0 0) 11 0)) w t) (some (.int (zr_misX (v 68 14) (v 71 1) (nI d))), zH (zb v 68 (upd (upd (v 68) 0 0) 11 0)) w t) := zs_misDanger (v := (zb v 68 (upd (upd (v 68) 0 0) 11 0))) (w := w) (nI d); rw [show (zr_misX (v 68 14) (v 71 1) (nI d)) = 1 from hg] at ee_; exact ee_) ?_
  show zk_T zk_mt zk_ex Ls xs zm_165 (9, [(0, .ref 69), (1, .int (nI d)), (2, .int 0)], [.int 1]) (zH (zb v 68 (upd (upd (v 68) 0 0) 11 0)) w t) _
  refine zk_T.br (f1 := (21, [(0, .ref 69), (1, .int (nI d)), (2, .int 0)], [])) (f2 := (12, [(0, .ref 69), (1, .int (nI d)), (2, .int 0)], [])) rfl (fun c1 => absurd (of_decide_eq_true c1) (by decide)) (fun c1 => ?_)
  refine zk_T.adv 3 (f' := (15, [(0, .ref 69), (1, .int (nI d)), (2, .int 0)], [.int 3, .int 0, .int 0])) (h' := zH (zb v 68 (upd (upd (v 68) 0 0) 11 0)) w t) rfl ?_
  refine zk_T.cl (v := some (.int 1)) (h' := zH (zb v 68 (upd (upd (v 68) 0 0) 11 0)) w t) rfl (by have ee_ : zk_Cr zk_mt zk_ex Ls xs 67 [.int 0, .int 0, .int 3] (zH (zb v 68 (upd (upd (v 68) 0 0) 11 0)) w t) (some (.int (zr_mwithin 0 0 3)), zH (zb v 68 (upd (upd (v 68) 0 0) 11 0)) w t) := zs_mwithin (v := (zb v 68 (upd (upd (v 68) 0 0) 11 0))) (w := w) 0 0 3; rw [show (zr_mwithin 0 0 3) = 1 from (by decide)] at ee_; exact ee_) ?_
  show zk_T zk_mt zk_ex Ls xs zm_165 (18, [(0, .ref 69), (1, .int (nI d)), (2, .int 0)], [.int 1]) (zH (zb v 68 (upd (upd (v 68) 0 0) 11 0)) w t) _
  refine zk_T.br (f1 := (21, [(0, .ref 69), (1, .int (nI d)), (2, .int 0)], [])) (f2 := (27, [(0, .ref 69), (1, .int (nI d)), (2, .int 0)], [])) rfl (fun c2 => absurd (of_decide_eq_true c2) (by decide)) (fun c2 => ?_)
  refine zk_T.adv 2 (f' := (29, [(0, .ref 69), (1, .int (nI d)), (2, .int 0)], [.int 2, .int 0])) (h' := zH (zb v 68 (upd (upd (v 68) 0 0) 11 0)) w t) rfl ?_
  refine zk_T.br (f1 := (48, [(0, .ref 69), (1, .int (nI d)), (2, .int 0)], [])) (f2 := (32, [(0, .ref 69), (1, .int (nI d)), (2, .int 0)], [])) rfl (fun c3 => absurd (of_decide_eq_true c3) (by decide)) (fun c3 => ?_)
  refine zk_T.adv 6 (f' := (41, [(0, .ref 69), (1, .int (nI d)), (2, .int 0)], [.int (2 * (nI d)), .int 7, .ref 72])) (h' := zH (zb v 68 (upd (upd (v 68) 0 0) 11 0)) w t) rfl ?_
  rw [show 2 * (nI d) = nI (2 * d) from pk_mul 2 d]
  refine zk_T.adv 1 (f' := (42, [(0, .ref 69), (1, .int (nI d)), (2, .int 0)], [.int (7 + (nI (2 * d))), .ref 72])) (h' := zH (zb v 68 (upd (upd (v 68) 0 0) 11 0)) w t) rfl ?_
  rw [show 7 + (nI (2 * d)) = nI (7 + (2 * d)) from nI_add 7 (2 * d)]
  refine zk_T.adv 2 (f' := (44, [(0, .ref 69), (1, .int (nI d)), (2, .int 0)], [.int ((nI (7 + (2 * d))) + 0), .ref 72])) (h' := zH (zb v 68 (upd (upd (v 68) 0 0) 11 0)) w t) rfl ?_
  rw [show (nI (7 + (2 * d))) + 0 = nI ((7 + (2 * d)) + 0) from nI_add (7 + (2 * d)) 0]
  refine zk_T.ob (f' := (45, [(0, .ref 69), (1, .int (nI d)), (2, .int 0)], [.int (v 71 (nI ((7 + (2 * d)) + 0)).toNatClampNeg)])) (h' := zH (zb v 68 (upd (upd (v 68) 0 0) 11 0)) w t) rfl (by first | exact zk_inN (by omega) (by decide) | decide) ?_
  rw [nI_clamp (show ((7 + (2 * d)) + 0) < 2 ^ 31 by omega)]
  refine zk_T.adv 1 (f' := (66, [(0, .ref 69), (1, .int (nI d)), (2, .int 0)], [.int (v 71 ((7 + (2 * d)) + 0))])) (h' := zH (zb v 68 (upd (upd (v 68) 0 0) 11 0)) w t) rfl ?_
  exact zk_T.rt rfl rfl (by rfl)
/-- BasketKeepModel.danger -/
theorem zM_danger_1 (d : Nat) (hd : d < 8) (hg : zr_misX (v 68 14) (v 71 1) (nI d) = 1) : zk_Cr zk_mt zk_ex Ls xs 165 [.ref 69, .int (nI d), .int 1] (zH v w t) (some (.int (v 71 ((7 + (2 * d)) + 1))), zH (zb v 68 (upd (upd (v 68) 0 0) 11 0)) w t) := by
  refine zk_Cr.of (K := zm_165) rfl rfl rfl ?_
  show zk_T zk_mt zk_ex Ls xs zm_165 (0, [(0, .ref 69), (1, .int (nI d)), (2, .int 1)], []) (zH v w t) _
  refine zk_T.adv 1 (f' := (1, [(0, .ref 69), (1, .int (nI d)), (2, .int 1)], [.ref 69])) (h' := zH v w t) rfl ?_
  refine zk_T.cl (v := none) (h' := zH (zb v 68 (upd (upd (v 68) 0 0) 11 0)) w t) rfl (zs_manew (v := v) (w := w)) ?_
  show zk_T zk_mt zk_ex Ls xs zm_165 (4, [(0, .ref 69), (1, .int (nI d)), (2, .int 1)], []) (zH (zb v 68 (upd (upd (v 68) 0 0) 11 0)) w t) _
  refine zk_T.adv 2 (f' := (6, [(0, .ref 69), (1, .int (nI d)), (2, .int 1)], [.int (nI d), .ref 69])) (h' := zH (zb v 68 (upd (upd (v 68) 0 0) 11 0)) w t) rfl ?_
  refine zk_T.cl (v := some (.int 1)) (h' := zH (zb v 68 (upd (upd (v 68) 0 0) 11 0)) w t) rfl (by have ee_ : zk_Cr zk_mt zk_ex Ls xs 116 [.ref 69, .int (nI d)] (zH (zb v 68 (upd (upd (v 68) 0 0) 11 0)) w t) (some (.int (zr_misX (v 68 14) (v 71 1) (nI d))), zH (zb v 68 (upd (upd (v 68) 0 0) 11 0)) w t) := zs_misDanger (v := (zb v 68 (upd (upd (v 68) 0 0) 11 0))) (w := w) (nI d); rw [show (zr_misX (v 68 14) (v 71 1) (nI d)) = 1 from hg] at ee_; exact ee_) ?_
  show zk_T zk_mt zk_ex Ls xs zm_165 (9, [(0, .ref 69), (1, .int (nI d)), (2, .int 1)], [.int 1]) (zH (zb v 68 (upd (upd (v 68) 0 0) 11 0)) w t) _
  refine zk_T.br (f1 := (21, [(0, .ref 69), (1, .int (nI d)), (2, .int 1)], [])) (f2 := (12, [(0, .ref 69), (1, .int (nI d)), (2, .int 1)], [])) rfl (fun c1 => absurd (of_decide_eq_true c1) (by decide)) (fun c1 => ?_)
  refine zk_T.adv 3 (f' := (15, [(0, .ref 69), (1, .int (nI d)), (2, .int 1)], [.int 3, .int 0, .int 1])) (h' := zH (zb v 68 (upd (upd (v 68) 0 0) 11 0)) w t) rfl ?_
  refine zk_T.cl (v := some (.int 1)) (h' := zH (zb v 68 (upd (upd (v 68) 0 0) 11 0)) w t) rfl (by have ee_ : zk_Cr zk_mt zk_ex Ls xs 67 [.int 1, .int 0, .int 3] (zH (zb v 68 (upd (upd (v 68) 0 0) 11 0)) w t) (some (.int (zr_mwithin 1 0 3)), zH (zb v 68 (upd (upd (v 68) 0 0) 11 0)) w t) := zs_mwithin (v := (zb v 68 (upd (upd (v 68) 0 0) 11 0))) (w := w) 1 0 3; rw [show (zr_mwithin 1 0 3) = 1 from (by decide)] at ee_; exact ee_) ?_
  show zk_T zk_mt zk_ex Ls xs zm_165 (18, [(0, .ref 69), (1, .int (nI d)), (2, .int 1)], [.int 1]) (zH (zb v 68 (upd (upd (v 68) 0 0) 11 0)) w t) _
  refine zk_T.br (f1 := (21, [(0, .ref 69), (1, .int (nI d)), (2, .int 1)], [])) (f2 := (27, [(0, .ref 69), (1, .int (nI d)), (2, .int 1)], [])) rfl (fun c2 => absurd (of_decide_eq_true c2) (by decide)) (fun c2 => ?_)
  refine zk_T.adv 2 (f' := (29, [(0, .ref 69), (1, .int (nI d)), (2, .int 1)], [.int 2, .int 1])) (h' := zH (zb v 68 (upd (upd (v 68) 0 0) 11 0)) w t) rfl ?_
  refine zk_T.br (f1 := (48, [(0, .ref 69), (1, .int (nI d)), (2, .int 1)], [])) (f2 := (32, [(0, .ref 69), (1, .int (nI d)), (2, .int 1)], [])) rfl (fun c3 => absurd (of_decide_eq_true c3) (by decide)) (fun c3 => ?_)
  refine zk_T.adv 6 (f' := (41, [(0, .ref 69), (1, .int (nI d)), (2, .int 1)], [.int (2 * (nI d)), .int 7, .ref 72])) (h' := zH (zb v 68 (upd (upd (v 68) 0 0) 11 0)) w t) rfl ?_
  rw [show 2 * (nI d) = nI (2 * d) from pk_mul 2 d]
  refine zk_T.adv 1 (f' := (42, [(0, .ref 69), (1, .int (nI d)), (2, .int 1)], [.int (7 + (nI (2 * d))), .ref 72])) (h' := zH (zb v 68 (upd (upd (v 68) 0 0) 11 0)) w t) rfl ?_
  rw [show 7 + (nI (2 * d)) = nI (7 + (2 * d)) from nI_add 7 (2 * d)]
  refine zk_T.adv 2 (f' := (44, [(0, .ref 69), (1, .int (nI d)), (2, .int 1)], [.int ((nI (7 + (2 * d))) + 1), .ref 72])) (h' := zH (zb v 68 (upd (upd (v 68) 0 0) 11 0)) w t) rfl ?_
  rw [show (nI (7 + (2 * d))) + 1 = nI ((7 + (2 * d)) + 1) from nI_add (7 + (2 * d)) 1]
  refine zk_T.ob (f' := (45, [(0, .ref 69), (1, .int (nI d)), (2, .int 1)], [.int (v 71 (nI ((7 + (2 * d)) + 1)).toNatClampNeg)])) (h' := zH (zb v 68 (upd (upd (v 68) 0 0) 11 0)) w t) rfl (by first | exact zk_inN (by omega) (by decide) | decide) ?_
  rw [nI_clamp (show ((7 + (2 * d)) + 1) < 2 ^ 31 by omega)]
  refine zk_T.adv 1 (f' := (66, [(0, .ref 69), (1, .int (nI d)), (2, .int 1)], [.int (v 71 ((7 + (2 * d)) + 1))])) (h' := zH (zb v 68 (upd (upd (v 68) 0 0) 11 0)) w t) rfl ?_
  exact zk_T.rt rfl rfl (by rfl)
/-- BasketKeepModel.danger -/
theorem zM_danger_2 (d : Nat) (hd : d < 8) (hg : zr_misX (v 68 14) (v 71 1) (nI d) = 1) (Gn : Nat) (hG : v 71 3 = nI Gn) (h4 : Gn ≤ 4) : zk_Cr zk_mt zk_ex Ls xs 165 [.ref 69, .int (nI d), .int 2] (zH v w t) (some (.int (zr_mfearers Gn (v 71) (nI d))), zH (zb v 68 (upd (upd (v 68) 0 0) 11 0)) w t) := by
  refine zk_Cr.of (K := zm_165) rfl rfl rfl ?_
  show zk_T zk_mt zk_ex Ls xs zm_165 (0, [(0, .ref 69), (1, .int (nI d)), (2, .int 2)], []) (zH v w t) _
  refine zk_T.adv 1 (f' := (1, [(0, .ref 69), (1, .int (nI d)), (2, .int 2)], [.ref 69])) (h' := zH v w t) rfl ?_
  refine zk_T.cl (v := none) (h' := zH (zb v 68 (upd (upd (v 68) 0 0) 11 0)) w t) rfl (zs_manew (v := v) (w := w)) ?_
  show zk_T zk_mt zk_ex Ls xs zm_165 (4, [(0, .ref 69), (1, .int (nI d)), (2, .int 2)], []) (zH (zb v 68 (upd (upd (v 68) 0 0) 11 0)) w t) _
  refine zk_T.adv 2 (f' := (6, [(0, .ref 69), (1, .int (nI d)), (2, .int 2)], [.int (nI d), .ref 69])) (h' := zH (zb v 68 (upd (upd (v 68) 0 0) 11 0)) w t) rfl ?_
  refine zk_T.cl (v := some (.int 1)) (h' := zH (zb v 68 (upd (upd (v 68) 0 0) 11 0)) w t) rfl (by have ee_ : zk_Cr zk_mt zk_ex Ls xs 116 [.ref 69, .int (nI d)] (zH (zb v 68 (upd (upd (v 68) 0 0) 11 0)) w t) (some (.int (zr_misX (v 68 14) (v 71 1) (nI d))), zH (zb v 68 (upd (upd (v 68) 0 0) 11 0)) w t) := zs_misDanger (v := (zb v 68 (upd (upd (v 68) 0 0) 11 0))) (w := w) (nI d); rw [show (zr_misX (v 68 14) (v 71 1) (nI d)) = 1 from hg] at ee_; exact ee_) ?_
  show zk_T zk_mt zk_ex Ls xs zm_165 (9, [(0, .ref 69), (1, .int (nI d)), (2, .int 2)], [.int 1]) (zH (zb v 68 (upd (upd (v 68) 0 0) 11 0)) w t) _
  refine zk_T.br (f1 := (21, [(0, .ref 69), (1, .int (nI d)), (2, .int 2)], [])) (f2 := (12, [(0, .ref 69), (1, .int (nI d)), (2, .int 2)], [])) rfl (fun c1 => absurd (of_decide_eq_true c1) (by decide)) (fun c1 => ?_)
  refine zk_T.adv 3 (f' := (15, [(0, .ref 69), (1, .int (nI d)), (2, .int 2)], [.int 3, .int 0, .int 2])) (h' := zH (zb v 68 (upd (upd (v 68) 0 0) 11 0)) w t) rfl ?_
  refine zk_T.cl (v := some (.int 1)) (h' := zH (zb v 68 (upd (upd (v 68) 0 0) 11 0)) w t) rfl (by have ee_ : zk_Cr zk_mt zk_ex Ls xs 67 [.int 2, .int 0, .int 3] (zH (zb v 68 (upd (upd (v 68) 0 0) 11 0)) w t) (some (.int (zr_mwithin 2 0 3)), zH (zb v 68 (upd (upd (v 68) 0 0) 11 0)) w t) := zs_mwithin (v := (zb v 68 (upd (upd (v 68) 0 0) 11 0))) (w := w) 2 0 3; rw [show (zr_mwithin 2 0 3) = 1 from (by decide)] at ee_; exact ee_) ?_
  show zk_T zk_mt zk_ex Ls xs zm_165 (18, [(0, .ref 69), (1, .int (nI d)), (2, .int 2)], [.int 1]) (zH (zb v 68 (upd (upd (v 68) 0 0) 11 0)) w t) _
  refine zk_T.br (f1 := (21, [(0, .ref 69), (1, .int (nI d)), (2, .int 2)], [])) (f2 := (27, [(0, .ref 69), (1, .int (nI d)), (2, .int 2)], [])) rfl (fun c2 => absurd (of_decide_eq_true c2) (by decide)) (fun c2 => ?_)
  refine zk_T.adv 2 (f' := (29, [(0, .ref 69), (1, .int (nI d)), (2, .int 2)], [.int 2, .int 2])) (h' := zH (zb v 68 (upd (upd (v 68) 0 0) 11 0)) w t) rfl ?_
  refine zk_T.br (f1 := (48, [(0, .ref 69), (1, .int (nI d)), (2, .int 2)], [])) (f2 := (32, [(0, .ref 69), (1, .int (nI d)), (2, .int 2)], [])) rfl (fun c3 => ?_) (fun c3 => absurd (by decide) (of_decide_eq_false c3))
  refine zk_T.adv 2 (f' := (50, [(0, .ref 69), (1, .int (nI d)), (2, .int 2)], [.int 2, .int 2])) (h' := zH (zb v 68 (upd (upd (v 68) 0 0) 11 0)) w t) rfl ?_
  refine zk_T.br (f1 := (53, [(0, .ref 69), (1, .int (nI d)), (2, .int 2)], [])) (f2 := (61, [(0, .ref 69), (1, .int (nI d)), (2, .int 2)], [])) rfl (fun c4 => ?_) (fun c4 => absurd (by decide) (of_decide_eq_false c4))
  refine zk_T.adv 2 (f' := (55, [(0, .ref 69), (1, .int (nI d)), (2, .int 2)], [.int (nI d), .ref 69])) (h' := zH (zb v 68 (upd (upd (v 68) 0 0) 11 0)) w t) rfl ?_
  refine zk_T.cl (v := some (.int (zr_mfearers Gn (v 71) (nI d)))) (h' := zH (zb v 68 (upd (upd (v 68) 0 0) 11 0)) w t) rfl (zs_mfearers (v := (zb v 68 (upd (upd (v 68) 0 0) 11 0))) (w := w) Gn hG h4 (nI d)) ?_
  show zk_T zk_mt zk_ex Ls xs zm_165 (58, [(0, .ref 69), (1, .int (nI d)), (2, .int 2)], [.int (zr_mfearers Gn (v 71) (nI d))]) (zH (zb v 68 (upd (upd (v 68) 0 0) 11 0)) w t) _
  refine zk_T.adv 1 (f' := (66, [(0, .ref 69), (1, .int (nI d)), (2, .int 2)], [.int (zr_mfearers Gn (v 71) (nI d))])) (h' := zH (zb v 68 (upd (upd (v 68) 0 0) 11 0)) w t) rfl ?_
  exact zk_T.rt rfl rfl (by rfl)
/-- BasketKeepModel.danger -/
theorem zM_danger_3 (d : Nat) (hd : d < 8) (hg : zr_misX (v 68 14) (v 71 1) (nI d) = 1) (Mn : Nat) (hM : v 71 2 = nI Mn) (h5 : Mn ≤ 5) : zk_Cr zk_mt zk_ex Ls xs 165 [.ref 69, .int (nI d), .int 3] (zH v w t) (some (.int (zr_mthinkers Mn (v 75) (nI d))), zH (zb v 68 (upd (upd (v 68) 0 0) 11 0)) w t) := by
  refine zk_Cr.of (K := zm_165) rfl rfl rfl ?_
  show zk_T zk_mt zk_ex Ls xs zm_165 (0, [(0, .ref 69), (1, .int (nI d)), (2, .int 3)], []) (zH v w t) _
  refine zk_T.adv 1 (f' := (1, [(0, .ref 69), (1, .int (nI d)), (2, .int 3)], [.ref 69])) (h' := zH v w t) rfl ?_
  refine zk_T.cl (v := none) (h' := zH (zb v 68 (upd (upd (v 68) 0 0) 11 0)) w t) rfl (zs_manew (v := v) (w := w)) ?_
  show zk_T zk_mt zk_ex Ls xs zm_165 (4, [(0, .ref 69), (1, .int (nI d)), (2, .int 3)], []) (zH (zb v 68 (upd (upd (v 68) 0 0) 11 0)) w t) _
  refine zk_T.adv 2 (f' := (6, [(0, .ref 69), (1, .int (nI d)), (2, .int 3)], [.int (nI d), .ref 69])) (h' := zH (zb v 68 (upd (upd (v 68) 0 0) 11 0)) w t) rfl ?_
  refine zk_T.cl (v := some (.int 1)) (h' := zH (zb v 68 (upd (upd (v 68) 0 0) 11 0)) w t) rfl (by have ee_ : zk_Cr zk_mt zk_ex Ls xs 116 [.ref 69, .int (nI d)] (zH (zb v 68 (upd (upd (v 68) 0 0) 11 0)) w t) (some (.int (zr_misX (v 68 14) (v 71 1) (nI d))), zH (zb v 68 (upd (upd (v 68) 0 0) 11 0)) w t) := zs_misDanger (v := (zb v 68 (upd (upd (v 68) 0 0) 11 0))) (w := w) (nI d); rw [show (zr_misX (v 68 14) (v 71 1) (nI d)) = 1 from hg] at ee_; exact ee_) ?_
  show zk_T zk_mt zk_ex Ls xs zm_165 (9, [(0, .ref 69), (1, .int (nI d)), (2, .int 3)], [.int 1]) (zH (zb v 68 (upd (upd (v 68) 0 0) 11 0)) w t) _
  refine zk_T.br (f1 := (21, [(0, .ref 69), (1, .int (nI d)), (2, .int 3)], [])) (f2 := (12, [(0, .ref 69), (1, .int (nI d)), (2, .int 3)], [])) rfl (fun c1 => absurd (of_decide_eq_true c1) (by decide)) (fun c1 => ?_)
  refine zk_T.adv 3 (f' := (15, [(0, .ref 69), (1, .int (nI d)), (2, .int 3)], [.int 3, .int 0, .int 3])) (h' := zH (zb v 68 (upd (upd (v 68) 0 0) 11 0)) w t) rfl ?_
  refine zk_T.cl (v := some (.int 1)) (h' := zH (zb v 68 (upd (upd (v 68) 0 0) 11 0)) w t) rfl (by have ee_ : zk_Cr zk_mt zk_ex Ls xs 67 [.int 3, .int 0, .int 3] (zH (zb v 68 (upd (upd (v 68) 0 0) 11 0)) w t) (some (.int (zr_mwithin 3 0 3)), zH (zb v 68 (upd (upd (v 68) 0 0) 11 0)) w t) := zs_mwithin (v := (zb v 68 (upd (upd (v 68) 0 0) 11 0))) (w := w) 3 0 3; rw [show (zr_mwithin 3 0 3) = 1 from (by decide)] at ee_; exact ee_) ?_
  show zk_T zk_mt zk_ex Ls xs zm_165 (18, [(0, .ref 69), (1, .int (nI d)), (2, .int 3)], [.int 1]) (zH (zb v 68 (upd (upd (v 68) 0 0) 11 0)) w t) _
  refine zk_T.br (f1 := (21, [(0, .ref 69), (1, .int (nI d)), (2, .int 3)], [])) (f2 := (27, [(0, .ref 69), (1, .int (nI d)), (2, .int 3)], [])) rfl (fun c2 => absurd (of_decide_eq_true c2) (by decide)) (fun c2 => ?_)
  refine zk_T.adv 2 (f' := (29, [(0, .ref 69), (1, .int (nI d)), (2, .int 3)], [.int 2, .int 3])) (h' := zH (zb v 68 (upd (upd (v 68) 0 0) 11 0)) w t) rfl ?_
  refine zk_T.br (f1 := (48, [(0, .ref 69), (1, .int (nI d)), (2, .int 3)], [])) (f2 := (32, [(0, .ref 69), (1, .int (nI d)), (2, .int 3)], [])) rfl (fun c3 => ?_) (fun c3 => absurd (by decide) (of_decide_eq_false c3))
  refine zk_T.adv 2 (f' := (50, [(0, .ref 69), (1, .int (nI d)), (2, .int 3)], [.int 2, .int 3])) (h' := zH (zb v 68 (upd (upd (v 68) 0 0) 11 0)) w t) rfl ?_
  refine zk_T.br (f1 := (53, [(0, .ref 69), (1, .int (nI d)), (2, .int 3)], [])) (f2 := (61, [(0, .ref 69), (1, .int (nI d)), (2, .int 3)], [])) rfl (fun c4 => absurd (of_decide_eq_true c4) (by decide)) (fun c4 => ?_)
  refine zk_T.adv 2 (f' := (63, [(0, .ref 69), (1, .int (nI d)), (2, .int 3)], [.int (nI d), .ref 69])) (h' := zH (zb v 68 (upd (upd (v 68) 0 0) 11 0)) w t) rfl ?_
  refine zk_T.cl (v := some (.int (zr_mthinkers Mn (v 75) (nI d)))) (h' := zH (zb v 68 (upd (upd (v 68) 0 0) 11 0)) w t) rfl (zs_mthinkers (v := (zb v 68 (upd (upd (v 68) 0 0) 11 0))) (w := w) Mn hM h5 (nI d)) ?_
  show zk_T zk_mt zk_ex Ls xs zm_165 (66, [(0, .ref 69), (1, .int (nI d)), (2, .int 3)], [.int (zr_mthinkers Mn (v 75) (nI d))]) (zH (zb v 68 (upd (upd (v 68) 0 0) 11 0)) w t) _
  exact zk_T.rt rfl rfl (by rfl)
/-- BasketKeepModel.maker -/
theorem zM_maker_0 (e : Nat) (he : e < 5) (hg : zr_misX (v 68 14) (v 71 2) (nI e) = 1) : zk_Cr zk_mt zk_ex Ls xs 167 [.ref 69, .int (nI e), .int 0] (zH v w t) (some (.int (v 71 (23 + (2 * e)))), zH (zb v 68 (upd (upd (v 68) 0 0) 11 0)) w t) := by
  refine zk_Cr.of (K := zm_167) rfl rfl rfl ?_
  show zk_T zk_mt zk_ex Ls xs zm_167 (0, [(0, .ref 69), (1, .int (nI e)), (2, .int 0)], []) (zH v w t) _
  refine zk_T.adv 1 (f' := (1, [(0, .ref 69), (1, .int (nI e)), (2, .int 0)], [.ref 69])) (h' := zH v w t) rfl ?_
  refine zk_T.cl (v := none) (h' := zH (zb v 68 (upd (upd (v 68) 0 0) 11 0)) w t) rfl (zs_manew (v := v) (w := w)) ?_
  show zk_T zk_mt zk_ex Ls xs zm_167 (4, [(0, .ref 69), (1, .int (nI e)), (2, .int 0)], []) (zH (zb v 68 (upd (upd (v 68) 0 0) 11 0)) w t) _
  refine zk_T.adv 2 (f' := (6, [(0, .ref 69), (1, .int (nI e)), (2, .int 0)], [.int (nI e), .ref 69])) (h' := zH (zb v 68 (upd (upd (v 68) 0 0) 11 0)) w t) rfl ?_
  refine zk_T.cl (v := some (.int 1)) (h' := zH (zb v 68 (upd (upd (v 68) 0 0) 11 0)) w t) rfl (by have ee_ : zk_Cr zk_mt zk_ex Ls xs 118 [.ref 69, .int (nI e)] (zH (zb v 68 (upd (upd (v 68) 0 0) 11 0)) w t) (some (.int (zr_misX (v 68 14) (v 71 2) (nI e))), zH (zb v 68 (upd (upd (v 68) 0 0) 11 0)) w t) := zs_misMaker (v := (zb v 68 (upd (upd (v 68) 0 0) 11 0))) (w := w) (nI e); rw [show (zr_misX (v 68 14) (v 71 2) (nI e)) = 1 from hg] at ee_; exact ee_) ?_
  show zk_T zk_mt zk_ex Ls xs zm_167 (9, [(0, .ref 69), (1, .int (nI e)), (2, .int 0)], [.int 1]) (zH (zb v 68 (upd (upd (v 68) 0 0) 11 0)) w t) _
  refine zk_T.br (f1 := (21, [(0, .ref 69), (1, .int (nI e)), (2, .int 0)], [])) (f2 := (12, [(0, .ref 69), (1, .int (nI e)), (2, .int 0)], [])) rfl (fun c1 => absurd (of_decide_eq_true c1) (by decide)) (fun c1 => ?_)
  refine zk_T.adv 3 (f' := (15, [(0, .ref 69), (1, .int (nI e)), (2, .int 0)], [.int 3, .int 0, .int 0])) (h' := zH (zb v 68 (upd (upd (v 68) 0 0) 11 0)) w t) rfl ?_
  refine zk_T.cl (v := some (.int 1)) (h' := zH (zb v 68 (upd (upd (v 68) 0 0) 11 0)) w t) rfl (by have ee_ : zk_Cr zk_mt zk_ex Ls xs 67 [.int 0, .int 0, .int 3] (zH (zb v 68 (upd (upd (v 68) 0 0) 11 0)) w t) (some (.int (zr_mwithin 0 0 3)), zH (zb v 68 (upd (upd (v 68) 0 0) 11 0)) w t) := zs_mwithin (v := (zb v 68 (upd (upd (v 68) 0 0) 11 0))) (w := w) 0 0 3; rw [show (zr_mwithin 0 0 3) = 1 from (by decide)] at ee_; exact ee_) ?_
  show zk_T zk_mt zk_ex Ls xs zm_167 (18, [(0, .ref 69), (1, .int (nI e)), (2, .int 0)], [.int 1]) (zH (zb v 68 (upd (upd (v 68) 0 0) 11 0)) w t) _
  refine zk_T.br (f1 := (21, [(0, .ref 69), (1, .int (nI e)), (2, .int 0)], [])) (f2 := (27, [(0, .ref 69), (1, .int (nI e)), (2, .int 0)], [])) rfl (fun c2 => absurd (of_decide_eq_true c2) (by decide)) (fun c2 => ?_)
  refine zk_T.adv 1 (f' := (28, [(0, .ref 69), (1, .int (nI e)), (2, .int 0)], [.int 0])) (h' := zH (zb v 68 (upd (upd (v 68) 0 0) 11 0)) w t) rfl ?_
  refine zk_T.adv 7 (f' := (65, [(0, .ref 69), (1, .int (nI e)), (2, .int 0)], [.int (2 * (nI e)), .int 23, .ref 72])) (h' := zH (zb v 68 (upd (upd (v 68) 0 0) 11 0)) w t) rfl ?_
  rw [show 2 * (nI e) = nI (2 * e) from pk_mul 2 e]
  refine zk_T.adv 1 (f' := (66, [(0, .ref 69), (1, .int (nI e)), (2, .int 0)], [.int (23 + (nI (2 * e))), .ref 72])) (h' := zH (zb v 68 (upd (upd (v 68) 0 0) 11 0)) w t) rfl ?_
  rw [show 23 + (nI (2 * e)) = nI (23 + (2 * e)) from nI_add 23 (2 * e)]
  refine zk_T.ob (f' := (67, [(0, .ref 69), (1, .int (nI e)), (2, .int 0)], [.int (v 71 (nI (23 + (2 * e))).toNatClampNeg)])) (h' := zH (zb v 68 (upd (upd (v 68) 0 0) 11 0)) w t) rfl (by first | exact zk_inN (by omega) (by decide) | decide) ?_
  rw [nI_clamp (show (23 + (2 * e)) < 2 ^ 31 by omega)]
  exact zk_T.rt rfl rfl (by rfl)
/-- BasketKeepModel.maker -/
theorem zM_maker_1 (e : Nat) (he : e < 5) (hg : zr_misX (v 68 14) (v 71 2) (nI e) = 1) : zk_Cr zk_mt zk_ex Ls xs 167 [.ref 69, .int (nI e), .int 1] (zH v w t) (some (.int (v 75 e)), zH (zb v 68 (upd (upd (v 68) 0 0) 11 0)) w t) := by
  refine zk_Cr.of (K := zm_167) rfl rfl rfl ?_
  show zk_T zk_mt zk_ex Ls xs zm_167 (0, [(0, .ref 69), (1, .int (nI e)), (2, .int 1)], []) (zH v w t) _
  refine zk_T.adv 1 (f' := (1, [(0, .ref 69), (1, .int (nI e)), (2, .int 1)], [.ref 69])) (h' := zH v w t) rfl ?_
  refine zk_T.cl (v := none) (h' := zH (zb v 68 (upd (upd (v 68) 0 0) 11 0)) w t) rfl (zs_manew (v := v) (w := w)) ?_
  show zk_T zk_mt zk_ex Ls xs zm_167 (4, [(0, .ref 69), (1, .int (nI e)), (2, .int 1)], []) (zH (zb v 68 (upd (upd (v 68) 0 0) 11 0)) w t) _
  refine zk_T.adv 2 (f' := (6, [(0, .ref 69), (1, .int (nI e)), (2, .int 1)], [.int (nI e), .ref 69])) (h' := zH (zb v 68 (upd (upd (v 68) 0 0) 11 0)) w t) rfl ?_
  refine zk_T.cl (v := some (.int 1)) (h' := zH (zb v 68 (upd (upd (v 68) 0 0) 11 0)) w t) rfl (by have ee_ : zk_Cr zk_mt zk_ex Ls xs 118 [.ref 69, .int (nI e)] (zH (zb v 68 (upd (upd (v 68) 0 0) 11 0)) w t) (some (.int (zr_misX (v 68 14) (v 71 2) (nI e))), zH (zb v 68 (upd (upd (v 68) 0 0) 11 0)) w t) := zs_misMaker (v := (zb v 68 (upd (upd (v 68) 0 0) 11 0))) (w := w) (nI e); rw [show (zr_misX (v 68 14) (v 71 2) (nI e)) = 1 from hg] at ee_; exact ee_) ?_
  show zk_T zk_mt zk_ex Ls xs zm_167 (9, [(0, .ref 69), (1, .int (nI e)), (2, .int 1)], [.int 1]) (zH (zb v 68 (upd (upd (v 68) 0 0) 11 0)) w t) _
  refine zk_T.br (f1 := (21, [(0, .ref 69), (1, .int (nI e)), (2, .int 1)], [])) (f2 := (12, [(0, .ref 69), (1, .int (nI e)), (2, .int 1)], [])) rfl (fun c1 => absurd (of_decide_eq_true c1) (by decide)) (fun c1 => ?_)
  refine zk_T.adv 3 (f' := (15, [(0, .ref 69), (1, .int (nI e)), (2, .int 1)], [.int 3, .int 0, .int 1])) (h' := zH (zb v 68 (upd (upd (v 68) 0 0) 11 0)) w t) rfl ?_
  refine zk_T.cl (v := some (.int 1)) (h' := zH (zb v 68 (upd (upd (v 68) 0 0) 11 0)) w t) rfl (by have ee_ : zk_Cr zk_mt zk_ex Ls xs 67 [.int 1, .int 0, .int 3] (zH (zb v 68 (upd (upd (v 68) 0 0) 11 0)) w t) (some (.int (zr_mwithin 1 0 3)), zH (zb v 68 (upd (upd (v 68) 0 0) 11 0)) w t) := zs_mwithin (v := (zb v 68 (upd (upd (v 68) 0 0) 11 0))) (w := w) 1 0 3; rw [show (zr_mwithin 1 0 3) = 1 from (by decide)] at ee_; exact ee_) ?_
  show zk_T zk_mt zk_ex Ls xs zm_167 (18, [(0, .ref 69), (1, .int (nI e)), (2, .int 1)], [.int 1]) (zH (zb v 68 (upd (upd (v 68) 0 0) 11 0)) w t) _
  refine zk_T.br (f1 := (21, [(0, .ref 69), (1, .int (nI e)), (2, .int 1)], [])) (f2 := (27, [(0, .ref 69), (1, .int (nI e)), (2, .int 1)], [])) rfl (fun c2 => absurd (of_decide_eq_true c2) (by decide)) (fun c2 => ?_)
  refine zk_T.adv 1 (f' := (28, [(0, .ref 69), (1, .int (nI e)), (2, .int 1)], [.int 1])) (h' := zH (zb v 68 (upd (upd (v 68) 0 0) 11 0)) w t) rfl ?_
  refine zk_T.adv 4 (f' := (73, [(0, .ref 69), (1, .int (nI e)), (2, .int 1)], [.int (nI e), .ref 76])) (h' := zH (zb v 68 (upd (upd (v 68) 0 0) 11 0)) w t) rfl ?_
  refine zk_T.ob (f' := (74, [(0, .ref 69), (1, .int (nI e)), (2, .int 1)], [.int (v 75 (nI e).toNatClampNeg)])) (h' := zH (zb v 68 (upd (upd (v 68) 0 0) 11 0)) w t) rfl (by first | exact zk_inN (by omega) (by decide) | decide) ?_
  rw [nI_clamp (show e < 2 ^ 31 by omega)]
  exact zk_T.rt rfl rfl (by rfl)
/-- BasketKeepModel.maker -/
theorem zM_maker_2 (e : Nat) (he : e < 5) (hg : zr_misX (v 68 14) (v 71 2) (nI e) = 1) : zk_Cr zk_mt zk_ex Ls xs 167 [.ref 69, .int (nI e), .int 2] (zH v w t) (some (.int (v 75 (5 + e))), zH (zb v 68 (upd (upd (v 68) 0 0) 11 0)) w t) := by
  refine zk_Cr.of (K := zm_167) rfl rfl rfl ?_
  show zk_T zk_mt zk_ex Ls xs zm_167 (0, [(0, .ref 69), (1, .int (nI e)), (2, .int 2)], []) (zH v w t) _
  refine zk_T.adv 1 (f' := (1, [(0, .ref 69), (1, .int (nI e)), (2, .int 2)], [.ref 69])) (h' := zH v w t) rfl ?_
  refine zk_T.cl (v := none) (h' := zH (zb v 68 (upd (upd (v 68) 0 0) 11 0)) w t) rfl (zs_manew (v := v) (w := w)) ?_
  show zk_T zk_mt zk_ex Ls xs zm_167 (4, [(0, .ref 69), (1, .int (nI e)), (2, .int 2)], []) (zH (zb v 68 (upd (upd (v 68) 0 0) 11 0)) w t) _
  refine zk_T.adv 2 (f' := (6, [(0, .ref 69), (1, .int (nI e)), (2, .int 2)], [.int (nI e), .ref 69])) (h' := zH (zb v 68 (upd (upd (v 68) 0 0) 11 0)) w t) rfl ?_
  refine zk_T.cl (v := some (.int 1)) (h' := zH (zb v 68 (upd (upd (v 68) 0 0) 11 0)) w t) rfl (by have ee_ : zk_Cr zk_mt zk_ex Ls xs 118 [.ref 69, .int (nI e)] (zH (zb v 68 (upd (upd (v 68) 0 0) 11 0)) w t) (some (.int (zr_misX (v 68 14) (v 71 2) (nI e))), zH (zb v 68 (upd (upd (v 68) 0 0) 11 0)) w t) := zs_misMaker (v := (zb v 68 (upd (upd (v 68) 0 0) 11 0))) (w := w) (nI e); rw [show (zr_misX (v 68 14) (v 71 2) (nI e)) = 1 from hg] at ee_; exact ee_) ?_
  show zk_T zk_mt zk_ex Ls xs zm_167 (9, [(0, .ref 69), (1, .int (nI e)), (2, .int 2)], [.int 1]) (zH (zb v 68 (upd (upd (v 68) 0 0) 11 0)) w t) _
  refine zk_T.br (f1 := (21, [(0, .ref 69), (1, .int (nI e)), (2, .int 2)], [])) (f2 := (12, [(0, .ref 69), (1, .int (nI e)), (2, .int 2)], [])) rfl (fun c1 => absurd (of_decide_eq_true c1) (by decide)) (fun c1 => ?_)
  refine zk_T.adv 3 (f' := (15, [(0, .ref 69), (1, .int (nI e)), (2, .int 2)], [.int 3, .int 0, .int 2])) (h' := zH (zb v 68 (upd (upd (v 68) 0 0) 11 0)) w t) rfl ?_
  refine zk_T.cl (v := some (.int 1)) (h' := zH (zb v 68 (upd (upd (v 68) 0 0) 11 0)) w t) rfl (by have ee_ : zk_Cr zk_mt zk_ex Ls xs 67 [.int 2, .int 0, .int 3] (zH (zb v 68 (upd (upd (v 68) 0 0) 11 0)) w t) (some (.int (zr_mwithin 2 0 3)), zH (zb v 68 (upd (upd (v 68) 0 0) 11 0)) w t) := zs_mwithin (v := (zb v 68 (upd (upd (v 68) 0 0) 11 0))) (w := w) 2 0 3; rw [show (zr_mwithin 2 0 3) = 1 from (by decide)] at ee_; exact ee_) ?_
  show zk_T zk_mt zk_ex Ls xs zm_167 (18, [(0, .ref 69), (1, .int (nI e)), (2, .int 2)], [.int 1]) (zH (zb v 68 (upd (upd (v 68) 0 0) 11 0)) w t) _
  refine zk_T.br (f1 := (21, [(0, .ref 69), (1, .int (nI e)), (2, .int 2)], [])) (f2 := (27, [(0, .ref 69), (1, .int (nI e)), (2, .int 2)], [])) rfl (fun c2 => absurd (of_decide_eq_true c2) (by decide)) (fun c2 => ?_)
  refine zk_T.adv 1 (f' := (28, [(0, .ref 69), (1, .int (nI e)), (2, .int 2)], [.int 2])) (h' := zH (zb v 68 (upd (upd (v 68) 0 0) 11 0)) w t) rfl ?_
  refine zk_T.adv 6 (f' := (82, [(0, .ref 69), (1, .int (nI e)), (2, .int 2)], [.int (5 + (nI e)), .ref 76])) (h' := zH (zb v 68 (upd (upd (v 68) 0 0) 11 0)) w t) rfl ?_
  rw [show 5 + (nI e) = nI (5 + e) from nI_add 5 e]
  refine zk_T.ob (f' := (83, [(0, .ref 69), (1, .int (nI e)), (2, .int 2)], [.int (v 75 (nI (5 + e)).toNatClampNeg)])) (h' := zH (zb v 68 (upd (upd (v 68) 0 0) 11 0)) w t) rfl (by first | exact zk_inN (by omega) (by decide) | decide) ?_
  rw [nI_clamp (show (5 + e) < 2 ^ 31 by omega)]
  exact zk_T.rt rfl rfl (by rfl)
/-- BasketKeepModel.maker -/
theorem zM_maker_3 (e : Nat) (he : e < 5) (hg : zr_misX (v 68 14) (v 71 2) (nI e) = 1) (Gn : Nat) (hG : v 71 3 = nI Gn) (h4 : Gn ≤ 4) : zk_Cr zk_mt zk_ex Ls xs 167 [.ref 69, .int (nI e), .int 3] (zH v w t) (some (.int (zr_mgoodIn Gn (v 75) (nI e))), zH (zb v 68 (upd (upd (v 68) 0 0) 11 0)) w t) := by
  refine zk_Cr.of (K := zm_167) rfl rfl rfl ?_
  show zk_T zk_mt zk_ex Ls xs zm_167 (0, [(0, .ref 69), (1, .int (nI e)), (2, .int 3)], []) (zH v w t) _
  refine zk_T.adv 1 (f' := (1, [(0, .ref 69), (1, .int (nI e)), (2, .int 3)], [.ref 69])) (h' := zH v w t) rfl ?_
  refine zk_T.cl (v := none) (h' := zH (zb v 68 (upd (upd (v 68) 0 0) 11 0)) w t) rfl (zs_manew (v := v) (w := w)) ?_
  show zk_T zk_mt zk_ex Ls xs zm_167 (4, [(0, .ref 69), (1, .int (nI e)), (2, .int 3)], []) (zH (zb v 68 (upd (upd (v 68) 0 0) 11 0)) w t) _
  refine zk_T.adv 2 (f' := (6, [(0, .ref 69), (1, .int (nI e)), (2, .int 3)], [.int (nI e), .ref 69])) (h' := zH (zb v 68 (upd (upd (v 68) 0 0) 11 0)) w t) rfl ?_
  refine zk_T.cl (v := some (.int 1)) (h' := zH (zb v 68 (upd (upd (v 68) 0 0) 11 0)) w t) rfl (by have ee_ : zk_Cr zk_mt zk_ex Ls xs 118 [.ref 69, .int (nI e)] (zH (zb v 68 (upd (upd (v 68) 0 0) 11 0)) w t) (some (.int (zr_misX (v 68 14) (v 71 2) (nI e))), zH (zb v 68 (upd (upd (v 68) 0 0) 11 0)) w t) := zs_misMaker (v := (zb v 68 (upd (upd (v 68) 0 0) 11 0))) (w := w) (nI e); rw [show (zr_misX (v 68 14) (v 71 2) (nI e)) = 1 from hg] at ee_; exact ee_) ?_
  show zk_T zk_mt zk_ex Ls xs zm_167 (9, [(0, .ref 69), (1, .int (nI e)), (2, .int 3)], [.int 1]) (zH (zb v 68 (upd (upd (v 68) 0 0) 11 0)) w t) _
  refine zk_T.br (f1 := (21, [(0, .ref 69), (1, .int (nI e)), (2, .int 3)], [])) (f2 := (12, [(0, .ref 69), (1, .int (nI e)), (2, .int 3)], [])) rfl (fun c1 => absurd (of_decide_eq_true c1) (by decide)) (fun c1 => ?_)
  refine zk_T.adv 3 (f' := (15, [(0, .ref 69), (1, .int (nI e)), (2, .int 3)], [.int 3, .int 0, .int 3])) (h' := zH (zb v 68 (upd (upd (v 68) 0 0) 11 0)) w t) rfl ?_
  refine zk_T.cl (v := some (.int 1)) (h' := zH (zb v 68 (upd (upd (v 68) 0 0) 11 0)) w t) rfl (by have ee_ : zk_Cr zk_mt zk_ex Ls xs 67 [.int 3, .int 0, .int 3] (zH (zb v 68 (upd (upd (v 68) 0 0) 11 0)) w t) (some (.int (zr_mwithin 3 0 3)), zH (zb v 68 (upd (upd (v 68) 0 0) 11 0)) w t) := zs_mwithin (v := (zb v 68 (upd (upd (v 68) 0 0) 11 0))) (w := w) 3 0 3; rw [show (zr_mwithin 3 0 3) = 1 from (by decide)] at ee_; exact ee_) ?_
  show zk_T zk_mt zk_ex Ls xs zm_167 (18, [(0, .ref 69), (1, .int (nI e)), (2, .int 3)], [.int 1]) (zH (zb v 68 (upd (upd (v 68) 0 0) 11 0)) w t) _
  refine zk_T.br (f1 := (21, [(0, .ref 69), (1, .int (nI e)), (2, .int 3)], [])) (f2 := (27, [(0, .ref 69), (1, .int (nI e)), (2, .int 3)], [])) rfl (fun c2 => absurd (of_decide_eq_true c2) (by decide)) (fun c2 => ?_)
  refine zk_T.adv 1 (f' := (28, [(0, .ref 69), (1, .int (nI e)), (2, .int 3)], [.int 3])) (h' := zH (zb v 68 (upd (upd (v 68) 0 0) 11 0)) w t) rfl ?_
  refine zk_T.adv 3 (f' := (86, [(0, .ref 69), (1, .int (nI e)), (2, .int 3)], [.int (nI e), .ref 69])) (h' := zH (zb v 68 (upd (upd (v 68) 0 0) 11 0)) w t) rfl ?_
  refine zk_T.cl (v := some (.int (zr_mgoodIn Gn (v 75) (nI e)))) (h' := zH (zb v 68 (upd (upd (v 68) 0 0) 11 0)) w t) rfl (zs_mgoodIn (v := (zb v 68 (upd (upd (v 68) 0 0) 11 0))) (w := w) Gn hG h4 (nI e)) ?_
  show zk_T zk_mt zk_ex Ls xs zm_167 (89, [(0, .ref 69), (1, .int (nI e)), (2, .int 3)], [.int (zr_mgoodIn Gn (v 75) (nI e))]) (zH (zb v 68 (upd (upd (v 68) 0 0) 11 0)) w t) _
  exact zk_T.rt rfl rfl (by rfl)
/-- BasketKeepModel.good -/
theorem zM_good_0 (a : Nat) (ha : a < 4) (hg : zr_misX (v 68 14) (v 71 3) (nI a) = 1) : zk_Cr zk_mt zk_ex Ls xs 166 [.ref 69, .int (nI a), .int 0] (zH v w t) (some (.int (v 71 ((33 + (2 * a)) + 0))), zH (zb v 68 (upd (upd (v 68) 0 0) 11 0)) w t) := by
  refine zk_Cr.of (K := zm_166) rfl rfl rfl ?_
  show zk_T zk_mt zk_ex Ls xs zm_166 (0, [(0, .ref 69), (1, .int (nI a)), (2, .int 0)], []) (zH v w t) _
  refine zk_T.adv 1 (f' := (1, [(0, .ref 69), (1, .int (nI a)), (2, .int 0)], [.ref 69])) (h' := zH v w t) rfl ?_
  refine zk_T.cl (v := none) (h' := zH (zb v 68 (upd (upd (v 68) 0 0) 11 0)) w t) rfl (zs_manew (v := v) (w := w)) ?_
  show zk_T zk_mt zk_ex Ls xs zm_166 (4, [(0, .ref 69), (1, .int (nI a)), (2, .int 0)], []) (zH (zb v 68 (upd (upd (v 68) 0 0) 11 0)) w t) _
  refine zk_T.adv 2 (f' := (6, [(0, .ref 69), (1, .int (nI a)), (2, .int 0)], [.int (nI a), .ref 69])) (h' := zH (zb v 68 (upd (upd (v 68) 0 0) 11 0)) w t) rfl ?_
  refine zk_T.cl (v := some (.int 1)) (h' := zH (zb v 68 (upd (upd (v 68) 0 0) 11 0)) w t) rfl (by have ee_ : zk_Cr zk_mt zk_ex Ls xs 117 [.ref 69, .int (nI a)] (zH (zb v 68 (upd (upd (v 68) 0 0) 11 0)) w t) (some (.int (zr_misX (v 68 14) (v 71 3) (nI a))), zH (zb v 68 (upd (upd (v 68) 0 0) 11 0)) w t) := zs_misGood (v := (zb v 68 (upd (upd (v 68) 0 0) 11 0))) (w := w) (nI a); rw [show (zr_misX (v 68 14) (v 71 3) (nI a)) = 1 from hg] at ee_; exact ee_) ?_
  show zk_T zk_mt zk_ex Ls xs zm_166 (9, [(0, .ref 69), (1, .int (nI a)), (2, .int 0)], [.int 1]) (zH (zb v 68 (upd (upd (v 68) 0 0) 11 0)) w t) _
  refine zk_T.br (f1 := (21, [(0, .ref 69), (1, .int (nI a)), (2, .int 0)], [])) (f2 := (12, [(0, .ref 69), (1, .int (nI a)), (2, .int 0)], [])) rfl (fun c1 => absurd (of_decide_eq_true c1) (by decide)) (fun c1 => ?_)
  refine zk_T.adv 3 (f' := (15, [(0, .ref 69), (1, .int (nI a)), (2, .int 0)], [.int 3, .int 0, .int 0])) (h' := zH (zb v 68 (upd (upd (v 68) 0 0) 11 0)) w t) rfl ?_
  refine zk_T.cl (v := some (.int 1)) (h' := zH (zb v 68 (upd (upd (v 68) 0 0) 11 0)) w t) rfl (by have ee_ : zk_Cr zk_mt zk_ex Ls xs 67 [.int 0, .int 0, .int 3] (zH (zb v 68 (upd (upd (v 68) 0 0) 11 0)) w t) (some (.int (zr_mwithin 0 0 3)), zH (zb v 68 (upd (upd (v 68) 0 0) 11 0)) w t) := zs_mwithin (v := (zb v 68 (upd (upd (v 68) 0 0) 11 0))) (w := w) 0 0 3; rw [show (zr_mwithin 0 0 3) = 1 from (by decide)] at ee_; exact ee_) ?_
  show zk_T zk_mt zk_ex Ls xs zm_166 (18, [(0, .ref 69), (1, .int (nI a)), (2, .int 0)], [.int 1]) (zH (zb v 68 (upd (upd (v 68) 0 0) 11 0)) w t) _
  refine zk_T.br (f1 := (21, [(0, .ref 69), (1, .int (nI a)), (2, .int 0)], [])) (f2 := (27, [(0, .ref 69), (1, .int (nI a)), (2, .int 0)], [])) rfl (fun c2 => absurd (of_decide_eq_true c2) (by decide)) (fun c2 => ?_)
  refine zk_T.adv 1 (f' := (28, [(0, .ref 69), (1, .int (nI a)), (2, .int 0)], [.int 0])) (h' := zH (zb v 68 (upd (upd (v 68) 0 0) 11 0)) w t) rfl ?_
  refine zk_T.adv 7 (f' := (65, [(0, .ref 69), (1, .int (nI a)), (2, .int 0)], [.int (2 * (nI a)), .int 33, .ref 72])) (h' := zH (zb v 68 (upd (upd (v 68) 0 0) 11 0)) w t) rfl ?_
  rw [show 2 * (nI a) = nI (2 * a) from pk_mul 2 a]
  refine zk_T.adv 1 (f' := (66, [(0, .ref 69), (1, .int (nI a)), (2, .int 0)], [.int (33 + (nI (2 * a))), .ref 72])) (h' := zH (zb v 68 (upd (upd (v 68) 0 0) 11 0)) w t) rfl ?_
  rw [show 33 + (nI (2 * a)) = nI (33 + (2 * a)) from nI_add 33 (2 * a)]
  refine zk_T.adv 2 (f' := (68, [(0, .ref 69), (1, .int (nI a)), (2, .int 0)], [.int ((nI (33 + (2 * a))) + 0), .ref 72])) (h' := zH (zb v 68 (upd (upd (v 68) 0 0) 11 0)) w t) rfl ?_
  rw [show (nI (33 + (2 * a))) + 0 = nI ((33 + (2 * a)) + 0) from nI_add (33 + (2 * a)) 0]
  refine zk_T.ob (f' := (69, [(0, .ref 69), (1, .int (nI a)), (2, .int 0)], [.int (v 71 (nI ((33 + (2 * a)) + 0)).toNatClampNeg)])) (h' := zH (zb v 68 (upd (upd (v 68) 0 0) 11 0)) w t) rfl (by first | exact zk_inN (by omega) (by decide) | decide) ?_
  rw [nI_clamp (show ((33 + (2 * a)) + 0) < 2 ^ 31 by omega)]
  exact zk_T.rt rfl rfl (by rfl)
/-- BasketKeepModel.good -/
theorem zM_good_1 (a : Nat) (ha : a < 4) (hg : zr_misX (v 68 14) (v 71 3) (nI a) = 1) : zk_Cr zk_mt zk_ex Ls xs 166 [.ref 69, .int (nI a), .int 1] (zH v w t) (some (.int (v 71 ((33 + (2 * a)) + 1))), zH (zb v 68 (upd (upd (v 68) 0 0) 11 0)) w t) := by
  refine zk_Cr.of (K := zm_166) rfl rfl rfl ?_
  show zk_T zk_mt zk_ex Ls xs zm_166 (0, [(0, .ref 69), (1, .int (nI a)), (2, .int 1)], []) (zH v w t) _
  refine zk_T.adv 1 (f' := (1, [(0, .ref 69), (1, .int (nI a)), (2, .int 1)], [.ref 69])) (h' := zH v w t) rfl ?_
  refine zk_T.cl (v := none) (h' := zH (zb v 68 (upd (upd (v 68) 0 0) 11 0)) w t) rfl (zs_manew (v := v) (w := w)) ?_
  show zk_T zk_mt zk_ex Ls xs zm_166 (4, [(0, .ref 69), (1, .int (nI a)), (2, .int 1)], []) (zH (zb v 68 (upd (upd (v 68) 0 0) 11 0)) w t) _
  refine zk_T.adv 2 (f' := (6, [(0, .ref 69), (1, .int (nI a)), (2, .int 1)], [.int (nI a), .ref 69])) (h' := zH (zb v 68 (upd (upd (v 68) 0 0) 11 0)) w t) rfl ?_
  refine zk_T.cl (v := some (.int 1)) (h' := zH (zb v 68 (upd (upd (v 68) 0 0) 11 0)) w t) rfl (by have ee_ : zk_Cr zk_mt zk_ex Ls xs 117 [.ref 69, .int (nI a)] (zH (zb v 68 (upd (upd (v 68) 0 0) 11 0)) w t) (some (.int (zr_misX (v 68 14) (v 71 3) (nI a))), zH (zb v 68 (upd (upd (v 68) 0 0) 11 0)) w t) := zs_misGood (v := (zb v 68 (upd (upd (v 68) 0 0) 11 0))) (w := w) (nI a); rw [show (zr_misX (v 68 14) (v 71 3) (nI a)) = 1 from hg] at ee_; exact ee_) ?_
  show zk_T zk_mt zk_ex Ls xs zm_166 (9, [(0, .ref 69), (1, .int (nI a)), (2, .int 1)], [.int 1]) (zH (zb v 68 (upd (upd (v 68) 0 0) 11 0)) w t) _
  refine zk_T.br (f1 := (21, [(0, .ref 69), (1, .int (nI a)), (2, .int 1)], [])) (f2 := (12, [(0, .ref 69), (1, .int (nI a)), (2, .int 1)], [])) rfl (fun c1 => absurd (of_decide_eq_true c1) (by decide)) (fun c1 => ?_)
  refine zk_T.adv 3 (f' := (15, [(0, .ref 69), (1, .int (nI a)), (2, .int 1)], [.int 3, .int 0, .int 1])) (h' := zH (zb v 68 (upd (upd (v 68) 0 0) 11 0)) w t) rfl ?_
  refine zk_T.cl (v := some (.int 1)) (h' := zH (zb v 68 (upd (upd (v 68) 0 0) 11 0)) w t) rfl (by have ee_ : zk_Cr zk_mt zk_ex Ls xs 67 [.int 1, .int 0, .int 3] (zH (zb v 68 (upd (upd (v 68) 0 0) 11 0)) w t) (some (.int (zr_mwithin 1 0 3)), zH (zb v 68 (upd (upd (v 68) 0 0) 11 0)) w t) := zs_mwithin (v := (zb v 68 (upd (upd (v 68) 0 0) 11 0))) (w := w) 1 0 3; rw [show (zr_mwithin 1 0 3) = 1 from (by decide)] at ee_; exact ee_) ?_
  show zk_T zk_mt zk_ex Ls xs zm_166 (18, [(0, .ref 69), (1, .int (nI a)), (2, .int 1)], [.int 1]) (zH (zb v 68 (upd (upd (v 68) 0 0) 11 0)) w t) _
  refine zk_T.br (f1 := (21, [(0, .ref 69), (1, .int (nI a)), (2, .int 1)], [])) (f2 := (27, [(0, .ref 69), (1, .int (nI a)), (2, .int 1)], [])) rfl (fun c2 => absurd (of_decide_eq_true c2) (by decide)) (fun c2 => ?_)
  refine zk_T.adv 1 (f' := (28, [(0, .ref 69), (1, .int (nI a)), (2, .int 1)], [.int 1])) (h' := zH (zb v 68 (upd (upd (v 68) 0 0) 11 0)) w t) rfl ?_
  refine zk_T.adv 7 (f' := (65, [(0, .ref 69), (1, .int (nI a)), (2, .int 1)], [.int (2 * (nI a)), .int 33, .ref 72])) (h' := zH (zb v 68 (upd (upd (v 68) 0 0) 11 0)) w t) rfl ?_
  rw [show 2 * (nI a) = nI (2 * a) from pk_mul 2 a]
  refine zk_T.adv 1 (f' := (66, [(0, .ref 69), (1, .int (nI a)), (2, .int 1)], [.int (33 + (nI (2 * a))), .ref 72])) (h' := zH (zb v 68 (upd (upd (v 68) 0 0) 11 0)) w t) rfl ?_
  rw [show 33 + (nI (2 * a)) = nI (33 + (2 * a)) from nI_add 33 (2 * a)]
  refine zk_T.adv 2 (f' := (68, [(0, .ref 69), (1, .int (nI a)), (2, .int 1)], [.int ((nI (33 + (2 * a))) + 1), .ref 72])) (h' := zH (zb v 68 (upd (upd (v 68) 0 0) 11 0)) w t) rfl ?_
  rw [show (nI (33 + (2 * a))) + 1 = nI ((33 + (2 * a)) + 1) from nI_add (33 + (2 * a)) 1]
  refine zk_T.ob (f' := (69, [(0, .ref 69), (1, .int (nI a)), (2, .int 1)], [.int (v 71 (nI ((33 + (2 * a)) + 1)).toNatClampNeg)])) (h' := zH (zb v 68 (upd (upd (v 68) 0 0) 11 0)) w t) rfl (by first | exact zk_inN (by omega) (by decide) | decide) ?_
  rw [nI_clamp (show ((33 + (2 * a)) + 1) < 2 ^ 31 by omega)]
  exact zk_T.rt rfl rfl (by rfl)
/-- BasketKeepModel.good -/
theorem zM_good_3 (a : Nat) (ha : a < 4) (hg : zr_misX (v 68 14) (v 71 3) (nI a) = 1) : zk_Cr zk_mt zk_ex Ls xs 166 [.ref 69, .int (nI a), .int 3] (zH v w t) (some (.int (((v 75 14) >>> ((nI a) &&& 31)) &&& 1)), zH (zb v 68 (upd (upd (v 68) 0 0) 11 0)) w t) := by
  refine zk_Cr.of (K := zm_166) rfl rfl rfl ?_
  show zk_T zk_mt zk_ex Ls xs zm_166 (0, [(0, .ref 69), (1, .int (nI a)), (2, .int 3)], []) (zH v w t) _
  refine zk_T.adv 1 (f' := (1, [(0, .ref 69), (1, .int (nI a)), (2, .int 3)], [.ref 69])) (h' := zH v w t) rfl ?_
  refine zk_T.cl (v := none) (h' := zH (zb v 68 (upd (upd (v 68) 0 0) 11 0)) w t) rfl (zs_manew (v := v) (w := w)) ?_
  show zk_T zk_mt zk_ex Ls xs zm_166 (4, [(0, .ref 69), (1, .int (nI a)), (2, .int 3)], []) (zH (zb v 68 (upd (upd (v 68) 0 0) 11 0)) w t) _
  refine zk_T.adv 2 (f' := (6, [(0, .ref 69), (1, .int (nI a)), (2, .int 3)], [.int (nI a), .ref 69])) (h' := zH (zb v 68 (upd (upd (v 68) 0 0) 11 0)) w t) rfl ?_
  refine zk_T.cl (v := some (.int 1)) (h' := zH (zb v 68 (upd (upd (v 68) 0 0) 11 0)) w t) rfl (by have ee_ : zk_Cr zk_mt zk_ex Ls xs 117 [.ref 69, .int (nI a)] (zH (zb v 68 (upd (upd (v 68) 0 0) 11 0)) w t) (some (.int (zr_misX (v 68 14) (v 71 3) (nI a))), zH (zb v 68 (upd (upd (v 68) 0 0) 11 0)) w t) := zs_misGood (v := (zb v 68 (upd (upd (v 68) 0 0) 11 0))) (w := w) (nI a); rw [show (zr_misX (v 68 14) (v 71 3) (nI a)) = 1 from hg] at ee_; exact ee_) ?_
  show zk_T zk_mt zk_ex Ls xs zm_166 (9, [(0, .ref 69), (1, .int (nI a)), (2, .int 3)], [.int 1]) (zH (zb v 68 (upd (upd (v 68) 0 0) 11 0)) w t) _
  refine zk_T.br (f1 := (21, [(0, .ref 69), (1, .int (nI a)), (2, .int 3)], [])) (f2 := (12, [(0, .ref 69), (1, .int (nI a)), (2, .int 3)], [])) rfl (fun c1 => absurd (of_decide_eq_true c1) (by decide)) (fun c1 => ?_)
  refine zk_T.adv 3 (f' := (15, [(0, .ref 69), (1, .int (nI a)), (2, .int 3)], [.int 3, .int 0, .int 3])) (h' := zH (zb v 68 (upd (upd (v 68) 0 0) 11 0)) w t) rfl ?_
  refine zk_T.cl (v := some (.int 1)) (h' := zH (zb v 68 (upd (upd (v 68) 0 0) 11 0)) w t) rfl (by have ee_ : zk_Cr zk_mt zk_ex Ls xs 67 [.int 3, .int 0, .int 3] (zH (zb v 68 (upd (upd (v 68) 0 0) 11 0)) w t) (some (.int (zr_mwithin 3 0 3)), zH (zb v 68 (upd (upd (v 68) 0 0) 11 0)) w t) := zs_mwithin (v := (zb v 68 (upd (upd (v 68) 0 0) 11 0))) (w := w) 3 0 3; rw [show (zr_mwithin 3 0 3) = 1 from (by decide)] at ee_; exact ee_) ?_
  show zk_T zk_mt zk_ex Ls xs zm_166 (18, [(0, .ref 69), (1, .int (nI a)), (2, .int 3)], [.int 1]) (zH (zb v 68 (upd (upd (v 68) 0 0) 11 0)) w t) _
  refine zk_T.br (f1 := (21, [(0, .ref 69), (1, .int (nI a)), (2, .int 3)], [])) (f2 := (27, [(0, .ref 69), (1, .int (nI a)), (2, .int 3)], [])) rfl (fun c2 => absurd (of_decide_eq_true c2) (by decide)) (fun c2 => ?_)
  refine zk_T.adv 1 (f' := (28, [(0, .ref 69), (1, .int (nI a)), (2, .int 3)], [.int 3])) (h' := zH (zb v 68 (upd (upd (v 68) 0 0) 11 0)) w t) rfl ?_
  refine zk_T.adv 4 (f' := (105, [(0, .ref 69), (1, .int (nI a)), (2, .int 3)], [.int 14, .ref 76])) (h' := zH (zb v 68 (upd (upd (v 68) 0 0) 11 0)) w t) rfl ?_
  refine zk_T.ob (f' := (106, [(0, .ref 69), (1, .int (nI a)), (2, .int 3)], [.int (v 75 (14 : Int32).toNatClampNeg)])) (h' := zH (zb v 68 (upd (upd (v 68) 0 0) 11 0)) w t) rfl rfl ?_
  show zk_T zk_mt zk_ex Ls xs zm_166 (106, [(0, .ref 69), (1, .int (nI a)), (2, .int 3)], [.int (v 75 14)]) (zH (zb v 68 (upd (upd (v 68) 0 0) 11 0)) w t) _
  refine zk_T.adv 4 (f' := (110, [(0, .ref 69), (1, .int (nI a)), (2, .int 3)], [.int (((v 75 14) >>> ((nI a) &&& 31)) &&& 1)])) (h' := zH (zb v 68 (upd (upd (v 68) 0 0) 11 0)) w t) rfl ?_
  exact zk_T.rt rfl rfl (by rfl)
def zr_mgood2 (x : Int32) : Int32 := if x = 0 then (-2) else (x - 1)
/-- BasketKeepModel.good -/
theorem zM_good_2 (a : Nat) (ha : a < 4) (hg : zr_misX (v 68 14) (v 71 3) (nI a) = 1) : zk_Cr zk_mt zk_ex Ls xs 166 [.ref 69, .int (nI a), .int 2] (zH v w t) (some (.int (zr_mgood2 (v 75 (10 + a)))), zH (zb v 68 (upd (upd (v 68) 0 0) 11 0)) w t) := by
  refine zk_Cr.of (K := zm_166) rfl rfl rfl ?_
  show zk_T zk_mt zk_ex Ls xs zm_166 (0, [(0, .ref 69), (1, .int (nI a)), (2, .int 2)], []) (zH v w t) _
  refine zk_T.adv 1 (f' := (1, [(0, .ref 69), (1, .int (nI a)), (2, .int 2)], [.ref 69])) (h' := zH v w t) rfl ?_
  refine zk_T.cl (v := none) (h' := zH (zb v 68 (upd (upd (v 68) 0 0) 11 0)) w t) rfl (zs_manew (v := v) (w := w)) ?_
  show zk_T zk_mt zk_ex Ls xs zm_166 (4, [(0, .ref 69), (1, .int (nI a)), (2, .int 2)], []) (zH (zb v 68 (upd (upd (v 68) 0 0) 11 0)) w t) _
  refine zk_T.adv 2 (f' := (6, [(0, .ref 69), (1, .int (nI a)), (2, .int 2)], [.int (nI a), .ref 69])) (h' := zH (zb v 68 (upd (upd (v 68) 0 0) 11 0)) w t) rfl ?_
  refine zk_T.cl (v := some (.int 1)) (h' := zH (zb v 68 (upd (upd (v 68) 0 0) 11 0)) w t) rfl (by have ee_ : zk_Cr zk_mt zk_ex Ls xs 117 [.ref 69, .int (nI a)] (zH (zb v 68 (upd (upd (v 68) 0 0) 11 0)) w t) (some (.int (zr_misX (v 68 14) (v 71 3) (nI a))), zH (zb v 68 (upd (upd (v 68) 0 0) 11 0)) w t) := zs_misGood (v := (zb v 68 (upd (upd (v 68) 0 0) 11 0))) (w := w) (nI a); rw [show (zr_misX (v 68 14) (v 71 3) (nI a)) = 1 from hg] at ee_; exact ee_) ?_
  show zk_T zk_mt zk_ex Ls xs zm_166 (9, [(0, .ref 69), (1, .int (nI a)), (2, .int 2)], [.int 1]) (zH (zb v 68 (upd (upd (v 68) 0 0) 11 0)) w t) _
  refine zk_T.br (f1 := (21, [(0, .ref 69), (1, .int (nI a)), (2, .int 2)], [])) (f2 := (12, [(0, .ref 69), (1, .int (nI a)), (2, .int 2)], [])) rfl (fun c1 => absurd (of_decide_eq_true c1) (by decide)) (fun c1 => ?_)
  refine zk_T.adv 3 (f' := (15, [(0, .ref 69), (1, .int (nI a)), (2, .int 2)], [.int 3, .int 0, .int 2])) (h' := zH (zb v 68 (upd (upd (v 68) 0 0) 11 0)) w t) rfl ?_
  refine zk_T.cl (v := some (.int 1)) (h' := zH (zb v 68 (upd (upd (v 68) 0 0) 11 0)) w t) rfl (by have ee_ : zk_Cr zk_mt zk_ex Ls xs 67 [.int 2, .int 0, .int 3] (zH (zb v 68 (upd (upd (v 68) 0 0) 11 0)) w t) (some (.int (zr_mwithin 2 0 3)), zH (zb v 68 (upd (upd (v 68) 0 0) 11 0)) w t) := zs_mwithin (v := (zb v 68 (upd (upd (v 68) 0 0) 11 0))) (w := w) 2 0 3; rw [show (zr_mwithin 2 0 3) = 1 from (by decide)] at ee_; exact ee_) ?_
  show zk_T zk_mt zk_ex Ls xs zm_166 (18, [(0, .ref 69), (1, .int (nI a)), (2, .int 2)], [.int 1]) (zH (zb v 68 (upd (upd (v 68) 0 0) 11 0)) w t) _
  refine zk_T.br (f1 := (21, [(0, .ref 69), (1, .int (nI a)), (2, .int 2)], [])) (f2 := (27, [(0, .ref 69), (1, .int (nI a)), (2, .int 2)], [])) rfl (fun c2 => absurd (of_decide_eq_true c2) (by decide)) (fun c2 => ?_)
  refine zk_T.adv 1 (f' := (28, [(0, .ref 69), (1, .int (nI a)), (2, .int 2)], [.int 2])) (h' := zH (zb v 68 (upd (upd (v 68) 0 0) 11 0)) w t) rfl ?_
  refine zk_T.adv 6 (f' := (78, [(0, .ref 69), (1, .int (nI a)), (2, .int 2)], [.int (10 + (nI a)), .ref 76])) (h' := zH (zb v 68 (upd (upd (v 68) 0 0) 11 0)) w t) rfl ?_
  rw [show 10 + (nI a) = nI (10 + a) from nI_add 10 a]
  refine zk_T.ob (f' := (79, [(0, .ref 69), (1, .int (nI a)), (2, .int 2)], [.int (v 75 (nI (10 + a)).toNatClampNeg)])) (h' := zH (zb v 68 (upd (upd (v 68) 0 0) 11 0)) w t) rfl (by first | exact zk_inN (by omega) (by decide) | decide) ?_
  rw [nI_clamp (show (10 + a) < 2 ^ 31 by omega)]
  refine zk_T.br (f1 := (82, [(0, .ref 69), (1, .int (nI a)), (2, .int 2)], [])) (f2 := (87, [(0, .ref 69), (1, .int (nI a)), (2, .int 2)], [])) rfl (fun c3 => ?_) (fun c3 => ?_)
  · have c3 : (v 75 (10 + a)) = 0 := of_decide_eq_true c3
    refine zk_T.adv 2 (f' := (98, [(0, .ref 69), (1, .int (nI a)), (2, .int 2)], [.int (-2)])) (h' := zH (zb v 68 (upd (upd (v 68) 0 0) 11 0)) w t) rfl ?_
    exact zk_T.rt rfl rfl (by simp only [zr_mgood2, if_pos c3])
  · have c3 : ¬ ((v 75 (10 + a)) = 0) := of_decide_eq_false c3
    refine zk_T.adv 5 (f' := (95, [(0, .ref 69), (1, .int (nI a)), (2, .int 2)], [.int (10 + (nI a)), .ref 76])) (h' := zH (zb v 68 (upd (upd (v 68) 0 0) 11 0)) w t) rfl ?_
    rw [show 10 + (nI a) = nI (10 + a) from nI_add 10 a]
    refine zk_T.ob (f' := (96, [(0, .ref 69), (1, .int (nI a)), (2, .int 2)], [.int (v 75 (nI (10 + a)).toNatClampNeg)])) (h' := zH (zb v 68 (upd (upd (v 68) 0 0) 11 0)) w t) rfl (by first | exact zk_inN (by omega) (by decide) | decide) ?_
    rw [nI_clamp (show (10 + a) < 2 ^ 31 by omega)]
    refine zk_T.adv 2 (f' := (98, [(0, .ref 69), (1, .int (nI a)), (2, .int 2)], [.int ((v 75 (10 + a)) - 1)])) (h' := zH (zb v 68 (upd (upd (v 68) 0 0) 11 0)) w t) rfl ?_
    exact zk_T.rt rfl rfl (by simp only [zr_mgood2, if_neg c3])
/-- BasketKeepModel.strikes -/
theorem zM_strikes_t (x : Int32) (hst : v 68 14 = 0) : zk_Cr zk_mt zk_ex Ls xs 127 [.ref 69, .int x] (zH v w t) (some (.int (-1)), zH (zb v 68 (upd (upd (v 68) 0 0) 11 1)) w t) := by
  refine zk_Cr.of (K := zm_127) rfl rfl rfl ?_
  show zk_T zk_mt zk_ex Ls xs zm_127 (0, [(0, .ref 69), (1, .int x)], []) (zH v w t) _
  refine zk_T.adv 1 (f' := (1, [(0, .ref 69), (1, .int x)], [.ref 69])) (h' := zH v w t) rfl ?_
  refine zk_T.cl (v := none) (h' := zH (zb v 68 (upd (upd (v 68) 0 0) 11 0)) w t) rfl (zs_manew (v := v) (w := w)) ?_
  show zk_T zk_mt zk_ex Ls xs zm_127 (4, [(0, .ref 69), (1, .int x)], []) (zH (zb v 68 (upd (upd (v 68) 0 0) 11 0)) w t) _
  refine zk_T.adv 3 (f' := (9, [(0, .ref 69), (1, .int x)], [.int (v 68 14), .ref 69])) (h' := zH (zb v 68 (upd (upd (v 68) 0 0) 11 0)) w t) rfl ?_
  rw [show (v 68 14) = 0 from hst]
  refine zk_T.adv 3 (f' := (14, [(0, .ref 69), (1, .int x)], [.int 999, .int 1, .int x, .int 0, .ref 69])) (h' := zH (zb v 68 (upd (upd (v 68) 0 0) 11 0)) w t) rfl ?_
  refine zk_T.cl (v := some (.int (zr_mwithin x 1 999))) (h' := zH (zb v 68 (upd (upd (v 68) 0 0) 11 0)) w t) rfl (zs_mwithin x 1 999) ?_
  show zk_T zk_mt zk_ex Ls xs zm_127 (17, [(0, .ref 69), (1, .int x)], [.int (zr_mwithin x 1 999), .int 0, .ref 69]) (zH (zb v 68 (upd (upd (v 68) 0 0) 11 0)) w t) _
  refine zk_T.cl (v := some (.int 1)) (h' := zH (zb v 68 (upd (upd (v 68) 0 0) 11 0)) w t) rfl (zs_mwhy (v := (zb v 68 (upd (upd (v 68) 0 0) 11 0))) (w := w) 0 (zr_mwithin x 1 999)) ?_
  show zk_T zk_mt zk_ex Ls xs zm_127 (20, [(0, .ref 69), (1, .int x)], [.int 1]) (zH (zb v 68 (upd (upd (v 68) 0 0) 11 0)) w t) _
  refine zk_T.adv 2 (f' := (22, [(0, .ref 69), (1, .int x), (2, .int 1)], [.int 1])) (h' := zH (zb v 68 (upd (upd (v 68) 0 0) 11 0)) w t) rfl ?_
  refine zk_T.br (f1 := (33, [(0, .ref 69), (1, .int x), (2, .int 1)], [])) (f2 := (25, [(0, .ref 69), (1, .int x), (2, .int 1)], [])) rfl (fun c1 => absurd (of_decide_eq_true c1) (by decide)) (fun c1 => ?_)
  refine zk_T.adv 2 (f' := (27, [(0, .ref 69), (1, .int x), (2, .int 1)], [.int 1, .ref 69])) (h' := zH (zb v 68 (upd (upd (v 68) 0 0) 11 0)) w t) rfl ?_
  refine zk_T.cl (v := some (.int (-1))) (h' := zH (zb v 68 (upd (upd (v 68) 0 0) 11 1)) w t) rfl (zs_mno (v := (zb v 68 (upd (upd (v 68) 0 0) 11 0))) (w := w) 1) ?_
  show zk_T zk_mt zk_ex Ls xs zm_127 (30, [(0, .ref 69), (1, .int x), (2, .int 1)], [.int (-1)]) (zH (zb v 68 (upd (upd (v 68) 0 0) 11 1)) w t) _
  refine zk_T.adv 1 (f' := (38, [(0, .ref 69), (1, .int x), (2, .int 1)], [.int (-1)])) (h' := zH (zb v 68 (upd (upd (v 68) 0 0) 11 1)) w t) rfl ?_
  exact zk_T.rt rfl rfl (by rfl)
/-- BasketKeepModel.strikes -/
theorem zM_strikes_o (x : Int32) (hst : v 68 14 = 1) (hw : zr_mwithin x 1 999 = 0) : zk_Cr zk_mt zk_ex Ls xs 127 [.ref 69, .int x] (zH v w t) (some (.int (-1)), zH (zb v 68 (upd (upd (v 68) 0 0) 11 2)) w t) := by
  refine zk_Cr.of (K := zm_127) rfl rfl rfl ?_
  show zk_T zk_mt zk_ex Ls xs zm_127 (0, [(0, .ref 69), (1, .int x)], []) (zH v w t) _
  refine zk_T.adv 1 (f' := (1, [(0, .ref 69), (1, .int x)], [.ref 69])) (h' := zH v w t) rfl ?_
  refine zk_T.cl (v := none) (h' := zH (zb v 68 (upd (upd (v 68) 0 0) 11 0)) w t) rfl (zs_manew (v := v) (w := w)) ?_
  show zk_T zk_mt zk_ex Ls xs zm_127 (4, [(0, .ref 69), (1, .int x)], []) (zH (zb v 68 (upd (upd (v 68) 0 0) 11 0)) w t) _
  refine zk_T.adv 3 (f' := (9, [(0, .ref 69), (1, .int x)], [.int (v 68 14), .ref 69])) (h' := zH (zb v 68 (upd (upd (v 68) 0 0) 11 0)) w t) rfl ?_
  rw [show (v 68 14) = 1 from hst]
  refine zk_T.adv 3 (f' := (14, [(0, .ref 69), (1, .int x)], [.int 999, .int 1, .int x, .int 1, .ref 69])) (h' := zH (zb v 68 (upd (upd (v 68) 0 0) 11 0)) w t) rfl ?_
  refine zk_T.cl (v := some (.int 0)) (h' := zH (zb v 68 (upd (upd (v 68) 0 0) 11 0)) w t) rfl (by have ee_ : zk_Cr zk_mt zk_ex Ls xs 67 [.int x, .int 1, .int 999] (zH (zb v 68 (upd (upd (v 68) 0 0) 11 0)) w t) (some (.int (zr_mwithin x 1 999)), zH (zb v 68 (upd (upd (v 68) 0 0) 11 0)) w t) := zs_mwithin (v := (zb v 68 (upd (upd (v 68) 0 0) 11 0))) (w := w) x 1 999; rw [show (zr_mwithin x 1 999) = 0 from hw] at ee_; exact ee_) ?_
  show zk_T zk_mt zk_ex Ls xs zm_127 (17, [(0, .ref 69), (1, .int x)], [.int 0, .int 1, .ref 69]) (zH (zb v 68 (upd (upd (v 68) 0 0) 11 0)) w t) _
  refine zk_T.cl (v := some (.int 2)) (h' := zH (zb v 68 (upd (upd (v 68) 0 0) 11 0)) w t) rfl (zs_mwhy (v := (zb v 68 (upd (upd (v 68) 0 0) 11 0))) (w := w) 1 0) ?_
  show zk_T zk_mt zk_ex Ls xs zm_127 (20, [(0, .ref 69), (1, .int x)], [.int 2]) (zH (zb v 68 (upd (upd (v 68) 0 0) 11 0)) w t) _
  refine zk_T.adv 2 (f' := (22, [(0, .ref 69), (1, .int x), (2, .int 2)], [.int 2])) (h' := zH (zb v 68 (upd (upd (v 68) 0 0) 11 0)) w t) rfl ?_
  refine zk_T.br (f1 := (33, [(0, .ref 69), (1, .int x), (2, .int 2)], [])) (f2 := (25, [(0, .ref 69), (1, .int x), (2, .int 2)], [])) rfl (fun c1 => absurd (of_decide_eq_true c1) (by decide)) (fun c1 => ?_)
  refine zk_T.adv 2 (f' := (27, [(0, .ref 69), (1, .int x), (2, .int 2)], [.int 2, .ref 69])) (h' := zH (zb v 68 (upd (upd (v 68) 0 0) 11 0)) w t) rfl ?_
  refine zk_T.cl (v := some (.int (-1))) (h' := zH (zb v 68 (upd (upd (v 68) 0 0) 11 2)) w t) rfl (zs_mno (v := (zb v 68 (upd (upd (v 68) 0 0) 11 0))) (w := w) 2) ?_
  show zk_T zk_mt zk_ex Ls xs zm_127 (30, [(0, .ref 69), (1, .int x), (2, .int 2)], [.int (-1)]) (zH (zb v 68 (upd (upd (v 68) 0 0) 11 2)) w t) _
  refine zk_T.adv 1 (f' := (38, [(0, .ref 69), (1, .int x), (2, .int 2)], [.int (-1)])) (h' := zH (zb v 68 (upd (upd (v 68) 0 0) 11 2)) w t) rfl ?_
  exact zk_T.rt rfl rfl (by rfl)
/-- BasketKeepModel.strikes -/
theorem zM_strikes_f (x : Int32) (hst : v 68 14 = 1) (hw : zr_mwithin x 1 999 = 1) (D : Nat) (hD : v 71 1 = nI D) (h8 : D ≤ 8) (hev : ∀ d, d < D → ¬ v 71 (7 + 2 * d) = 0) : zk_Cr zk_mt zk_ex Ls xs 127 [.ref 69, .int x] (zH v w t) (some (.int (zr_mstrikersIn D (v 71) x)), zH (zb v 68 (upd (upd (v 68) 0 0) 11 0)) w t) := by
  refine zk_Cr.of (K := zm_127) rfl rfl rfl ?_
  show zk_T zk_mt zk_ex Ls xs zm_127 (0, [(0, .ref 69), (1, .int x)], []) (zH v w t) _
  refine zk_T.adv 1 (f' := (1, [(0, .ref 69), (1, .int x)], [.ref 69])) (h' := zH v w t) rfl ?_
  refine zk_T.cl (v := none) (h' := zH (zb v 68 (upd (upd (v 68) 0 0) 11 0)) w t) rfl (zs_manew (v := v) (w := w)) ?_
  show zk_T zk_mt zk_ex Ls xs zm_127 (4, [(0, .ref 69), (1, .int x)], []) (zH (zb v 68 (upd (upd (v 68) 0 0) 11 0)) w t) _
  refine zk_T.adv 3 (f' := (9, [(0, .ref 69), (1, .int x)], [.int (v 68 14), .ref 69])) (h' := zH (zb v 68 (upd (upd (v 68) 0 0) 11 0)) w t) rfl ?_
  rw [show (v 68 14) = 1 from hst]
  refine zk_T.adv 3 (f' := (14, [(0, .ref 69), (1, .int x)], [.int 999, .int 1, .int x, .int 1, .ref 69])) (h' := zH (zb v 68 (upd (upd (v 68) 0 0) 11 0)) w t) rfl ?_
  refine zk_T.cl (v := some (.int 1)) (h' := zH (zb v 68 (upd (upd (v 68) 0 0) 11 0)) w t) rfl (by have ee_ : zk_Cr zk_mt zk_ex Ls xs 67 [.int x, .int 1, .int 999] (zH (zb v 68 (upd (upd (v 68) 0 0) 11 0)) w t) (some (.int (zr_mwithin x 1 999)), zH (zb v 68 (upd (upd (v 68) 0 0) 11 0)) w t) := zs_mwithin (v := (zb v 68 (upd (upd (v 68) 0 0) 11 0))) (w := w) x 1 999; rw [show (zr_mwithin x 1 999) = 1 from hw] at ee_; exact ee_) ?_
  show zk_T zk_mt zk_ex Ls xs zm_127 (17, [(0, .ref 69), (1, .int x)], [.int 1, .int 1, .ref 69]) (zH (zb v 68 (upd (upd (v 68) 0 0) 11 0)) w t) _
  refine zk_T.cl (v := some (.int 0)) (h' := zH (zb v 68 (upd (upd (v 68) 0 0) 11 0)) w t) rfl (zs_mwhy (v := (zb v 68 (upd (upd (v 68) 0 0) 11 0))) (w := w) 1 1) ?_
  show zk_T zk_mt zk_ex Ls xs zm_127 (20, [(0, .ref 69), (1, .int x)], [.int 0]) (zH (zb v 68 (upd (upd (v 68) 0 0) 11 0)) w t) _
  refine zk_T.adv 2 (f' := (22, [(0, .ref 69), (1, .int x), (2, .int 0)], [.int 0])) (h' := zH (zb v 68 (upd (upd (v 68) 0 0) 11 0)) w t) rfl ?_
  refine zk_T.br (f1 := (33, [(0, .ref 69), (1, .int x), (2, .int 0)], [])) (f2 := (25, [(0, .ref 69), (1, .int x), (2, .int 0)], [])) rfl (fun c1 => ?_) (fun c1 => absurd (by decide) (of_decide_eq_false c1))
  refine zk_T.adv 2 (f' := (35, [(0, .ref 69), (1, .int x), (2, .int 0)], [.int x, .ref 69])) (h' := zH (zb v 68 (upd (upd (v 68) 0 0) 11 0)) w t) rfl ?_
  refine zk_T.cl (v := some (.int (zr_mstrikersIn D (v 71) x))) (h' := zH (zb v 68 (upd (upd (v 68) 0 0) 11 0)) w t) rfl (zs_mstrikersIn (v := (zb v 68 (upd (upd (v 68) 0 0) 11 0))) D hD h8 hev x) ?_
  show zk_T zk_mt zk_ex Ls xs zm_127 (38, [(0, .ref 69), (1, .int x), (2, .int 0)], [.int (zr_mstrikersIn D (v 71) x)]) (zH (zb v 68 (upd (upd (v 68) 0 0) 11 0)) w t) _
  exact zk_T.rt rfl rfl (by rfl)
/-- BasketKeepModel.keepsOut -/
theorem zM_keepsOut_t (x y : Int32) (hg : zr_misX (v 68 14) (v 71 2) x = 0) : zk_Cr zk_mt zk_ex Ls xs 208 [.ref 69, .int x, .int y] (zH v w t) (some (.int (-1)), zH (zb v 68 (upd (upd (v 68) 0 0) 11 1)) w t) := by
  refine zk_Cr.of (K := zm_208) rfl rfl rfl ?_
  show zk_T zk_mt zk_ex Ls xs zm_208 (0, [(0, .ref 69), (1, .int x), (2, .int y)], []) (zH v w t) _
  refine zk_T.adv 1 (f' := (1, [(0, .ref 69), (1, .int x), (2, .int y)], [.ref 69])) (h' := zH v w t) rfl ?_
  refine zk_T.cl (v := none) (h' := zH (zb v 68 (upd (upd (v 68) 0 0) 11 0)) w t) rfl (zs_manew (v := v) (w := w)) ?_
  show zk_T zk_mt zk_ex Ls xs zm_208 (4, [(0, .ref 69), (1, .int x), (2, .int y)], []) (zH (zb v 68 (upd (upd (v 68) 0 0) 11 0)) w t) _
  refine zk_T.adv 3 (f' := (7, [(0, .ref 69), (1, .int x), (2, .int y)], [.int x, .ref 69, .ref 69])) (h' := zH (zb v 68 (upd (upd (v 68) 0 0) 11 0)) w t) rfl ?_
  refine zk_T.cl (v := some (.int 0)) (h' := zH (zb v 68 (upd (upd (v 68) 0 0) 11 0)) w t) rfl (by have ee_ : zk_Cr zk_mt zk_ex Ls xs 118 [.ref 69, .int x] (zH (zb v 68 (upd (upd (v 68) 0 0) 11 0)) w t) (some (.int (zr_misX (v 68 14) (v 71 2) x)), zH (zb v 68 (upd (upd (v 68) 0 0) 11 0)) w t) := zs_misMaker (v := (zb v 68 (upd (upd (v 68) 0 0) 11 0))) (w := w) x; rw [show (zr_misX (v 68 14) (v 71 2) x) = 0 from hg] at ee_; exact ee_) ?_
  show zk_T zk_mt zk_ex Ls xs zm_208 (10, [(0, .ref 69), (1, .int x), (2, .int y)], [.int 0, .ref 69]) (zH (zb v 68 (upd (upd (v 68) 0 0) 11 0)) w t) _
  refine zk_T.adv 3 (f' := (15, [(0, .ref 69), (1, .int x), (2, .int y)], [.int 999, .int 1, .int y, .int 0, .ref 69])) (h' := zH (zb v 68 (upd (upd (v 68) 0 0) 11 0)) w t) rfl ?_
  refine zk_T.cl (v := some (.int (zr_mwithin y 1 999))) (h' := zH (zb v 68 (upd (upd (v 68) 0 0) 11 0)) w t) rfl (zs_mwithin y 1 999) ?_
  show zk_T zk_mt zk_ex Ls xs zm_208 (18, [(0, .ref 69), (1, .int x), (2, .int y)], [.int (zr_mwithin y 1 999), .int 0, .ref 69]) (zH (zb v 68 (upd (upd (v 68) 0 0) 11 0)) w t) _
  refine zk_T.cl (v := some (.int 1)) (h' := zH (zb v 68 (upd (upd (v 68) 0 0) 11 0)) w t) rfl (zs_mwhy (v := (zb v 68 (upd (upd (v 68) 0 0) 11 0))) (w := w) 0 (zr_mwithin y 1 999)) ?_
  show zk_T zk_mt zk_ex Ls xs zm_208 (21, [(0, .ref 69), (1, .int x), (2, .int y)], [.int 1]) (zH (zb v 68 (upd (upd (v 68) 0 0) 11 0)) w t) _
  refine zk_T.adv 2 (f' := (23, [(0, .ref 69), (1, .int x), (2, .int y), (3, .int 1)], [.int 1])) (h' := zH (zb v 68 (upd (upd (v 68) 0 0) 11 0)) w t) rfl ?_
  refine zk_T.br (f1 := (32, [(0, .ref 69), (1, .int x), (2, .int y), (3, .int 1)], [])) (f2 := (26, [(0, .ref 69), (1, .int x), (2, .int y), (3, .int 1)], [])) rfl (fun c1 => absurd (of_decide_eq_true c1) (by decide)) (fun c1 => ?_)
  refine zk_T.adv 2 (f' := (28, [(0, .ref 69), (1, .int x), (2, .int y), (3, .int 1)], [.int 1, .ref 69])) (h' := zH (zb v 68 (upd (upd (v 68) 0 0) 11 0)) w t) rfl ?_
  refine zk_T.cl (v := some (.int (-1))) (h' := zH (zb v 68 (upd (upd (v 68) 0 0) 11 1)) w t) rfl (zs_mno (v := (zb v 68 (upd (upd (v 68) 0 0) 11 0))) (w := w) 1) ?_
  show zk_T zk_mt zk_ex Ls xs zm_208 (31, [(0, .ref 69), (1, .int x), (2, .int y), (3, .int 1)], [.int (-1)]) (zH (zb v 68 (upd (upd (v 68) 0 0) 11 1)) w t) _
  exact zk_T.rt rfl rfl (by rfl)
/-- BasketKeepModel.keepsOut -/
theorem zM_keepsOut_o (x y : Int32) (hg : zr_misX (v 68 14) (v 71 2) x = 1) (hw : zr_mwithin y 1 999 = 0) : zk_Cr zk_mt zk_ex Ls xs 208 [.ref 69, .int x, .int y] (zH v w t) (some (.int (-1)), zH (zb v 68 (upd (upd (v 68) 0 0) 11 2)) w t) := by
  refine zk_Cr.of (K := zm_208) rfl rfl rfl ?_
  show zk_T zk_mt zk_ex Ls xs zm_208 (0, [(0, .ref 69), (1, .int x), (2, .int y)], []) (zH v w t) _
  refine zk_T.adv 1 (f' := (1, [(0, .ref 69), (1, .int x), (2, .int y)], [.ref 69])) (h' := zH v w t) rfl ?_
  refine zk_T.cl (v := none) (h' := zH (zb v 68 (upd (upd (v 68) 0 0) 11 0)) w t) rfl (zs_manew (v := v) (w := w)) ?_
  show zk_T zk_mt zk_ex Ls xs zm_208 (4, [(0, .ref 69), (1, .int x), (2, .int y)], []) (zH (zb v 68 (upd (upd (v 68) 0 0) 11 0)) w t) _
  refine zk_T.adv 3 (f' := (7, [(0, .ref 69), (1, .int x), (2, .int y)], [.int x, .ref 69, .ref 69])) (h' := zH (zb v 68 (upd (upd (v 68) 0 0) 11 0)) w t) rfl ?_
  refine zk_T.cl (v := some (.int 1)) (h' := zH (zb v 68 (upd (upd (v 68) 0 0) 11 0)) w t) rfl (by have ee_ : zk_Cr zk_mt zk_ex Ls xs 118 [.ref 69, .int x] (zH (zb v 68 (upd (upd (v 68) 0 0) 11 0)) w t) (some (.int (zr_misX (v 68 14) (v 71 2) x)), zH (zb v 68 (upd (upd (v 68) 0 0) 11 0)) w t) := zs_misMaker (v := (zb v 68 (upd (upd (v 68) 0 0) 11 0))) (w := w) x; rw [show (zr_misX (v 68 14) (v 71 2) x) = 1 from hg] at ee_; exact ee_) ?_
  show zk_T zk_mt zk_ex Ls xs zm_208 (10, [(0, .ref 69), (1, .int x), (2, .int y)], [.int 1, .ref 69]) (zH (zb v 68 (upd (upd (v 68) 0 0) 11 0)) w t) _
  refine zk_T.adv 3 (f' := (15, [(0, .ref 69), (1, .int x), (2, .int y)], [.int 999, .int 1, .int y, .int 1, .ref 69])) (h' := zH (zb v 68 (upd (upd (v 68) 0 0) 11 0)) w t) rfl ?_
  refine zk_T.cl (v := some (.int 0)) (h' := zH (zb v 68 (upd (upd (v 68) 0 0) 11 0)) w t) rfl (by have ee_ : zk_Cr zk_mt zk_ex Ls xs 67 [.int y, .int 1, .int 999] (zH (zb v 68 (upd (upd (v 68) 0 0) 11 0)) w t) (some (.int (zr_mwithin y 1 999)), zH (zb v 68 (upd (upd (v 68) 0 0) 11 0)) w t) := zs_mwithin (v := (zb v 68 (upd (upd (v 68) 0 0) 11 0))) (w := w) y 1 999; rw [show (zr_mwithin y 1 999) = 0 from hw] at ee_; exact ee_) ?_
  show zk_T zk_mt zk_ex Ls xs zm_208 (18, [(0, .ref 69), (1, .int x), (2, .int y)], [.int 0, .int 1, .ref 69]) (zH (zb v 68 (upd (upd (v 68) 0 0) 11 0)) w t) _
  refine zk_T.cl (v := some (.int 2)) (h' := zH (zb v 68 (upd (upd (v 68) 0 0) 11 0)) w t) rfl (zs_mwhy (v := (zb v 68 (upd (upd (v 68) 0 0) 11 0))) (w := w) 1 0) ?_
  show zk_T zk_mt zk_ex Ls xs zm_208 (21, [(0, .ref 69), (1, .int x), (2, .int y)], [.int 2]) (zH (zb v 68 (upd (upd (v 68) 0 0) 11 0)) w t) _
  refine zk_T.adv 2 (f' := (23, [(0, .ref 69), (1, .int x), (2, .int y), (3, .int 2)], [.int 2])) (h' := zH (zb v 68 (upd (upd (v 68) 0 0) 11 0)) w t) rfl ?_
  refine zk_T.br (f1 := (32, [(0, .ref 69), (1, .int x), (2, .int y), (3, .int 2)], [])) (f2 := (26, [(0, .ref 69), (1, .int x), (2, .int y), (3, .int 2)], [])) rfl (fun c1 => absurd (of_decide_eq_true c1) (by decide)) (fun c1 => ?_)
  refine zk_T.adv 2 (f' := (28, [(0, .ref 69), (1, .int x), (2, .int y), (3, .int 2)], [.int 2, .ref 69])) (h' := zH (zb v 68 (upd (upd (v 68) 0 0) 11 0)) w t) rfl ?_
  refine zk_T.cl (v := some (.int (-1))) (h' := zH (zb v 68 (upd (upd (v 68) 0 0) 11 2)) w t) rfl (zs_mno (v := (zb v 68 (upd (upd (v 68) 0 0) 11 0))) (w := w) 2) ?_
  show zk_T zk_mt zk_ex Ls xs zm_208 (31, [(0, .ref 69), (1, .int x), (2, .int y), (3, .int 2)], [.int (-1)]) (zH (zb v 68 (upd (upd (v 68) 0 0) 11 2)) w t) _
  exact zk_T.rt rfl rfl (by rfl)
/-- BasketKeepModel.keepsOut -/
theorem zM_keepsOut_f (y : Int32) (e : Nat) (he : e < 5) (hg : zr_misX (v 68 14) (v 71 2) (nI e) = 1) (hw : zr_mwithin y 1 999 = 1) : zk_Cr zk_mt zk_ex Ls xs 208 [.ref 69, .int (nI e), .int y] (zH v w t) (some (.int (zr_moutOf (v 71) (v 75) (zr_mnoSlips (v 79)) e y)), zH (zb (zb v 68 (upd (upd (v 68) 0 0) 11 0)) 79 (zr_mnoSlips (v 79))) w t) := by
  refine zk_Cr.of (K := zm_208) rfl rfl rfl ?_
  show zk_T zk_mt zk_ex Ls xs zm_208 (0, [(0, .ref 69), (1, .int (nI e)), (2, .int y)], []) (zH v w t) _
  refine zk_T.adv 1 (f' := (1, [(0, .ref 69), (1, .int (nI e)), (2, .int y)], [.ref 69])) (h' := zH v w t) rfl ?_
  refine zk_T.cl (v := none) (h' := zH (zb v 68 (upd (upd (v 68) 0 0) 11 0)) w t) rfl (zs_manew (v := v) (w := w)) ?_
  show zk_T zk_mt zk_ex Ls xs zm_208 (4, [(0, .ref 69), (1, .int (nI e)), (2, .int y)], []) (zH (zb v 68 (upd (upd (v 68) 0 0) 11 0)) w t) _
  refine zk_T.adv 3 (f' := (7, [(0, .ref 69), (1, .int (nI e)), (2, .int y)], [.int (nI e), .ref 69, .ref 69])) (h' := zH (zb v 68 (upd (upd (v 68) 0 0) 11 0)) w t) rfl ?_
  refine zk_T.cl (v := some (.int 1)) (h' := zH (zb v 68 (upd (upd (v 68) 0 0) 11 0)) w t) rfl (by have ee_ : zk_Cr zk_mt zk_ex Ls xs 118 [.ref 69, .int (nI e)] (zH (zb v 68 (upd (upd (v 68) 0 0) 11 0)) w t) (some (.int (zr_misX (v 68 14) (v 71 2) (nI e))), zH (zb v 68 (upd (upd (v 68) 0 0) 11 0)) w t) := zs_misMaker (v := (zb v 68 (upd (upd (v 68) 0 0) 11 0))) (w := w) (nI e); rw [show (zr_misX (v 68 14) (v 71 2) (nI e)) = 1 from hg] at ee_; exact ee_) ?_
  show zk_T zk_mt zk_ex Ls xs zm_208 (10, [(0, .ref 69), (1, .int (nI e)), (2, .int y)], [.int 1, .ref 69]) (zH (zb v 68 (upd (upd (v 68) 0 0) 11 0)) w t) _
  refine zk_T.adv 3 (f' := (15, [(0, .ref 69), (1, .int (nI e)), (2, .int y)], [.int 999, .int 1, .int y, .int 1, .ref 69])) (h' := zH (zb v 68 (upd (upd (v 68) 0 0) 11 0)) w t) rfl ?_
  refine zk_T.cl (v := some (.int 1)) (h' := zH (zb v 68 (upd (upd (v 68) 0 0) 11 0)) w t) rfl (by have ee_ : zk_Cr zk_mt zk_ex Ls xs 67 [.int y, .int 1, .int 999] (zH (zb v 68 (upd (upd (v 68) 0 0) 11 0)) w t) (some (.int (zr_mwithin y 1 999)), zH (zb v 68 (upd (upd (v 68) 0 0) 11 0)) w t) := zs_mwithin (v := (zb v 68 (upd (upd (v 68) 0 0) 11 0))) (w := w) y 1 999; rw [show (zr_mwithin y 1 999) = 1 from hw] at ee_; exact ee_) ?_
  show zk_T zk_mt zk_ex Ls xs zm_208 (18, [(0, .ref 69), (1, .int (nI e)), (2, .int y)], [.int 1, .int 1, .ref 69]) (zH (zb v 68 (upd (upd (v 68) 0 0) 11 0)) w t) _
  refine zk_T.cl (v := some (.int 0)) (h' := zH (zb v 68 (upd (upd (v 68) 0 0) 11 0)) w t) rfl (zs_mwhy (v := (zb v 68 (upd (upd (v 68) 0 0) 11 0))) (w := w) 1 1) ?_
  show zk_T zk_mt zk_ex Ls xs zm_208 (21, [(0, .ref 69), (1, .int (nI e)), (2, .int y)], [.int 0]) (zH (zb v 68 (upd (upd (v 68) 0 0) 11 0)) w t) _
  refine zk_T.adv 2 (f' := (23, [(0, .ref 69), (1, .int (nI e)), (2, .int y), (3, .int 0)], [.int 0])) (h' := zH (zb v 68 (upd (upd (v 68) 0 0) 11 0)) w t) rfl ?_
  refine zk_T.br (f1 := (32, [(0, .ref 69), (1, .int (nI e)), (2, .int y), (3, .int 0)], [])) (f2 := (26, [(0, .ref 69), (1, .int (nI e)), (2, .int y), (3, .int 0)], [])) rfl (fun c1 => ?_) (fun c1 => absurd (by decide) (of_decide_eq_false c1))
  refine zk_T.adv 1 (f' := (33, [(0, .ref 69), (1, .int (nI e)), (2, .int y), (3, .int 0)], [.ref 69])) (h' := zH (zb v 68 (upd (upd (v 68) 0 0) 11 0)) w t) rfl ?_
  refine zk_T.cl (v := none) (h' := zH (zb (zb v 68 (upd (upd (v 68) 0 0) 11 0)) 79 (zr_mnoSlips (v 79))) w t) rfl (zs_mnoSlips (v := (zb v 68 (upd (upd (v 68) 0 0) 11 0)))) ?_
  show zk_T zk_mt zk_ex Ls xs zm_208 (36, [(0, .ref 69), (1, .int (nI e)), (2, .int y), (3, .int 0)], []) (zH (zb (zb v 68 (upd (upd (v 68) 0 0) 11 0)) 79 (zr_mnoSlips (v 79))) w t) _
  refine zk_T.adv 5 (f' := (43, [(0, .ref 69), (1, .int (nI e)), (2, .int y), (3, .int 0)], [.int y, .int (nI e), .ref 76, .ref 69])) (h' := zH (zb (zb v 68 (upd (upd (v 68) 0 0) 11 0)) 79 (zr_mnoSlips (v 79))) w t) rfl ?_
  refine zk_T.cl (v := some (.int (zr_moutOf (v 71) (v 75) (zr_mnoSlips (v 79)) e y))) (h' := zH (zb (zb v 68 (upd (upd (v 68) 0 0) 11 0)) 79 (zr_mnoSlips (v 79))) w t) rfl (zs_moutOfS (v := (zb (zb v 68 (upd (upd (v 68) 0 0) 11 0)) 79 (zr_mnoSlips (v 79)))) (w := w) e (by omega) y) ?_
  show zk_T zk_mt zk_ex Ls xs zm_208 (46, [(0, .ref 69), (1, .int (nI e)), (2, .int y), (3, .int 0)], [.int (zr_moutOf (v 71) (v 75) (zr_mnoSlips (v 79)) e y)]) (zH (zb (zb v 68 (upd (upd (v 68) 0 0) 11 0)) 79 (zr_mnoSlips (v 79))) w t) _
  exact zk_T.rt rfl rfl (by rfl)
/-- BasketKeepModel.worth -/
theorem zM_worth_t (hst : v 68 14 = 0) : zk_Cr zk_mt zk_ex Ls xs 184 [.ref 69] (zH v w t) (some (.int (-1)), zH (zb v 68 (upd (upd (v 68) 0 0) 11 1)) w t) := by
  refine zk_Cr.of (K := zm_184) rfl rfl rfl ?_
  show zk_T zk_mt zk_ex Ls xs zm_184 (0, [(0, .ref 69)], []) (zH v w t) _
  refine zk_T.adv 1 (f' := (1, [(0, .ref 69)], [.ref 69])) (h' := zH v w t) rfl ?_
  refine zk_T.cl (v := none) (h' := zH (zb v 68 (upd (upd (v 68) 0 0) 11 0)) w t) rfl (zs_manew (v := v) (w := w)) ?_
  show zk_T zk_mt zk_ex Ls xs zm_184 (4, [(0, .ref 69)], []) (zH (zb v 68 (upd (upd (v 68) 0 0) 11 0)) w t) _
  refine zk_T.adv 2 (f' := (8, [(0, .ref 69)], [.int (v 68 14)])) (h' := zH (zb v 68 (upd (upd (v 68) 0 0) 11 0)) w t) rfl ?_
  rw [show (v 68 14) = 0 from hst]
  refine zk_T.br (f1 := (22, [(0, .ref 69)], [])) (f2 := (11, [(0, .ref 69)], [])) rfl (fun c1 => ?_) (fun c1 => absurd (by decide) (of_decide_eq_false c1))
  refine zk_T.adv 2 (f' := (24, [(0, .ref 69)], [.int 1, .ref 69])) (h' := zH (zb v 68 (upd (upd (v 68) 0 0) 11 0)) w t) rfl ?_
  refine zk_T.cl (v := some (.int (-1))) (h' := zH (zb v 68 (upd (upd (v 68) 0 0) 11 1)) w t) rfl (zs_mno (v := (zb v 68 (upd (upd (v 68) 0 0) 11 0))) (w := w) 1) ?_
  show zk_T zk_mt zk_ex Ls xs zm_184 (27, [(0, .ref 69)], [.int (-1)]) (zH (zb v 68 (upd (upd (v 68) 0 0) 11 1)) w t) _
  exact zk_T.rt rfl rfl (by rfl)
/-- BasketKeepModel.worth -/
theorem zM_worth_f (hst : v 68 14 = 1) (Gn : Nat) (hG : v 71 3 = nI Gn) (h4 : Gn ≤ 4) : zk_Cr zk_mt zk_ex Ls xs 184 [.ref 69] (zH v w t) (some (.int (zr_mworth Gn (v 71) (v 75))), zH (zb v 68 (upd (upd (v 68) 0 0) 11 0)) w t) := by
  refine zk_Cr.of (K := zm_184) rfl rfl rfl ?_
  show zk_T zk_mt zk_ex Ls xs zm_184 (0, [(0, .ref 69)], []) (zH v w t) _
  refine zk_T.adv 1 (f' := (1, [(0, .ref 69)], [.ref 69])) (h' := zH v w t) rfl ?_
  refine zk_T.cl (v := none) (h' := zH (zb v 68 (upd (upd (v 68) 0 0) 11 0)) w t) rfl (zs_manew (v := v) (w := w)) ?_
  show zk_T zk_mt zk_ex Ls xs zm_184 (4, [(0, .ref 69)], []) (zH (zb v 68 (upd (upd (v 68) 0 0) 11 0)) w t) _
  refine zk_T.adv 2 (f' := (8, [(0, .ref 69)], [.int (v 68 14)])) (h' := zH (zb v 68 (upd (upd (v 68) 0 0) 11 0)) w t) rfl ?_
  rw [show (v 68 14) = 1 from hst]
  refine zk_T.br (f1 := (22, [(0, .ref 69)], [])) (f2 := (11, [(0, .ref 69)], [])) rfl (fun c1 => absurd (of_decide_eq_true c1) (by decide)) (fun c1 => ?_)
  refine zk_T.adv 3 (f' := (16, [(0, .ref 69)], [.ref 76, .ref 69])) (h' := zH (zb v 68 (upd (upd (v 68) 0 0) 11 0)) w t) rfl ?_
  refine zk_T.cl (v := some (.int (zr_mworth Gn (v 71) (v 75)))) (h' := zH (zb v 68 (upd (upd (v 68) 0 0) 11 0)) w t) rfl (zs_mworthOnS (v := (zb v 68 (upd (upd (v 68) 0 0) 11 0))) (w := w) Gn hG h4) ?_
  show zk_T zk_mt zk_ex Ls xs zm_184 (19, [(0, .ref 69)], [.int (zr_mworth Gn (v 71) (v 75))]) (zH (zb v 68 (upd (upd (v 68) 0 0) 11 0)) w t) _
  refine zk_T.adv 1 (f' := (27, [(0, .ref 69)], [.int (zr_mworth Gn (v 71) (v 75))])) (h' := zH (zb v 68 (upd (upd (v 68) 0 0) 11 0)) w t) rfl ?_
  exact zk_T.rt rfl rfl (by rfl)
/-- BasketKeepModel.strikesNext -/
theorem zM_strikesNext_t (x : Int32) (hg : zr_misX (v 68 14) (v 71 1) x = 0) : zk_Cr zk_mt zk_ex Ls xs 178 [.ref 69, .int x] (zH v w t) (some (.int (-1)), zH (zb v 68 (upd (upd (v 68) 0 0) 11 1)) w t) := by
  refine zk_Cr.of (K := zm_178) rfl rfl rfl ?_
  show zk_T zk_mt zk_ex Ls xs zm_178 (0, [(0, .ref 69), (1, .int x)], []) (zH v w t) _
  refine zk_T.adv 1 (f' := (1, [(0, .ref 69), (1, .int x)], [.ref 69])) (h' := zH v w t) rfl ?_
  refine zk_T.cl (v := none) (h' := zH (zb v 68 (upd (upd (v 68) 0 0) 11 0)) w t) rfl (zs_manew (v := v) (w := w)) ?_
  show zk_T zk_mt zk_ex Ls xs zm_178 (4, [(0, .ref 69), (1, .int x)], []) (zH (zb v 68 (upd (upd (v 68) 0 0) 11 0)) w t) _
  refine zk_T.adv 2 (f' := (6, [(0, .ref 69), (1, .int x)], [.int x, .ref 69])) (h' := zH (zb v 68 (upd (upd (v 68) 0 0) 11 0)) w t) rfl ?_
  refine zk_T.cl (v := some (.int 0)) (h' := zH (zb v 68 (upd (upd (v 68) 0 0) 11 0)) w t) rfl (by have ee_ : zk_Cr zk_mt zk_ex Ls xs 116 [.ref 69, .int x] (zH (zb v 68 (upd (upd (v 68) 0 0) 11 0)) w t) (some (.int (zr_misX (v 68 14) (v 71 1) x)), zH (zb v 68 (upd (upd (v 68) 0 0) 11 0)) w t) := zs_misDanger (v := (zb v 68 (upd (upd (v 68) 0 0) 11 0))) (w := w) x; rw [show (zr_misX (v 68 14) (v 71 1) x) = 0 from hg] at ee_; exact ee_) ?_
  show zk_T zk_mt zk_ex Ls xs zm_178 (9, [(0, .ref 69), (1, .int x)], [.int 0]) (zH (zb v 68 (upd (upd (v 68) 0 0) 11 0)) w t) _
  refine zk_T.br (f1 := (12, [(0, .ref 69), (1, .int x)], [])) (f2 := (18, [(0, .ref 69), (1, .int x)], [])) rfl (fun c1 => ?_) (fun c1 => absurd (by decide) (of_decide_eq_false c1))
  refine zk_T.adv 2 (f' := (14, [(0, .ref 69), (1, .int x)], [.int 1, .ref 69])) (h' := zH (zb v 68 (upd (upd (v 68) 0 0) 11 0)) w t) rfl ?_
  refine zk_T.cl (v := some (.int (-1))) (h' := zH (zb v 68 (upd (upd (v 68) 0 0) 11 1)) w t) rfl (zs_mno (v := (zb v 68 (upd (upd (v 68) 0 0) 11 0))) (w := w) 1) ?_
  show zk_T zk_mt zk_ex Ls xs zm_178 (17, [(0, .ref 69), (1, .int x)], [.int (-1)]) (zH (zb v 68 (upd (upd (v 68) 0 0) 11 1)) w t) _
  exact zk_T.rt rfl rfl (by rfl)
def zl_msnG (D : Nat) (r : Nat → Int32) (d : Nat) (s : Nat) : (Nat) ⊕ (Nat) := match s with
  | y => if (zr_mhasBit (zr_mstrikersIn D (r) (nI y)) (nI d)) = 0 then .inl (y + 1) else .inr y
theorem zl_msn (D : Nat) (hD : v 71 1 = nI D) (h8 : D ≤ 8) (hev : ∀ d, d < D → ¬ v 71 (7 + 2 * d) = 0) (d T : Nat) (hT : ¬ zr_mhasBit (zr_mstrikersIn D (v 71) (nI T)) (nI d) = 0) (hT3 : T < 2 ^ 31) : ∀ (n : Nat) (s : Nat) (q : Option Value × zk_H), s ≤ T → T - s < n → zk_T zk_mt zk_ex Ls xs zm_178 ((fun (s : Nat) => ((46, [(0, .ref 69), (1, .int (nI d)), (2, .int (nI s))], []) : zk_F)) (zw (zl_msnG D (v 71) d) n s)) ((fun (s : Nat) => zH (zb v 68 (upd (upd (v 68) 0 0) 11 0)) w t) (zw (zl_msnG D (v 71) d) n s)) q → zk_T zk_mt zk_ex Ls xs zm_178 (28, [(0, .ref 69), (1, .int (nI d)), (2, .int (nI s))], []) (zH (zb v 68 (upd (upd (v 68) 0 0) 11 0)) w t) q := by
  intro n s q hP0 hn hk
  refine zk_whl (M := zm_178) (fun (s : Nat) => (28, [(0, .ref 69), (1, .int (nI d)), (2, .int (nI s))], [])) (fun (s : Nat) => zH (zb v 68 (upd (upd (v 68) 0 0) 11 0)) w t) (fun (s : Nat) => (46, [(0, .ref 69), (1, .int (nI d)), (2, .int (nI s))], [])) (fun (s : Nat) => zH (zb v 68 (upd (upd (v 68) 0 0) 11 0)) w t) (zl_msnG D (v 71) d) (fun (s : Nat) => s ≤ T) (fun (s : Nat) => T - s) (fun s s' hp hg => ?_) (fun s hp q hk => ?_) n s hP0 hn q hk
  · obtain ⟨y, rfl⟩ : ∃ z, z = s := ⟨_, rfl⟩
    have hp : y ≤ T := hp
    show s' ≤ T ∧ T - s' < T - y
    unfold zl_msnG at hg
    dsimp only at hg
    split at hg
    · rename_i c
      have hy : y ≠ T := fun z => hT (z ▸ c)
      cases hg
      exact ⟨by omega, by omega⟩
    · cases hg
  · obtain ⟨y, rfl⟩ : ∃ z, z = s := ⟨_, rfl⟩
    have hp : y ≤ T := hp
    show zk_T zk_mt zk_ex Ls xs zm_178 (28, [(0, .ref 69), (1, .int (nI d)), (2, .int (nI y))], []) (zH (zb v 68 (upd (upd (v 68) 0 0) 11 0)) w t) q
    refine zk_T.adv 2 (f' := (30, [(0, .ref 69), (1, .int (nI d)), (2, .int (nI y))], [.int (nI y), .ref 69])) (h' := zH (zb v 68 (upd (upd (v 68) 0 0) 11 0)) w t) rfl ?_
    refine zk_T.cl (v := some (.int (zr_mstrikersIn D (v 71) (nI y)))) (h' := zH (zb v 68 (upd (upd (v 68) 0 0) 11 0)) w t) rfl (zs_mstrikersIn (v := (zb v 68 (upd (upd (v 68) 0 0) 11 0))) D hD h8 hev (nI y)) ?_
    show zk_T zk_mt zk_ex Ls xs zm_178 (33, [(0, .ref 69), (1, .int (nI d)), (2, .int (nI y))], [.int (zr_mstrikersIn D (v 71) (nI y))]) (zH (zb v 68 (upd (upd (v 68) 0 0) 11 0)) w t) _
    refine zk_T.adv 1 (f' := (34, [(0, .ref 69), (1, .int (nI d)), (2, .int (nI y))], [.int (nI d), .int (zr_mstrikersIn D (v 71) (nI y))])) (h' := zH (zb v 68 (upd (upd (v 68) 0 0) 11 0)) w t) rfl ?_
    refine zk_T.cl (v := some (.int (zr_mhasBit (zr_mstrikersIn D (v 71) (nI y)) (nI d)))) (h' := zH (zb v 68 (upd (upd (v 68) 0 0) 11 0)) w t) rfl (zs_mhasBit (zr_mstrikersIn D (v 71) (nI y)) (nI d)) ?_
    show zk_T zk_mt zk_ex Ls xs zm_178 (37, [(0, .ref 69), (1, .int (nI d)), (2, .int (nI y))], [.int (zr_mhasBit (zr_mstrikersIn D (v 71) (nI y)) (nI d))]) (zH (zb v 68 (upd (upd (v 68) 0 0) 11 0)) w t) _
    refine zk_T.br (f1 := (40, [(0, .ref 69), (1, .int (nI d)), (2, .int (nI y))], [])) (f2 := (46, [(0, .ref 69), (1, .int (nI d)), (2, .int (nI y))], [])) rfl (fun c1 => ?_) (fun c1 => ?_)
    · have c1 : (zr_mhasBit (zr_mstrikersIn D (v 71) (nI y)) (nI d)) = 0 := of_decide_eq_true c1
      refine zk_T.adv 1 (f' := (43, [(0, .ref 69), (1, .int (nI d)), (2, .int ((nI y) + 1))], [])) (h' := zH (zb v 68 (upd (upd (v 68) 0 0) 11 0)) w t) rfl ?_
      rw [show (nI y) + 1 = nI (y + 1) from nI_add y 1]
      refine zk_T.adv 1 (f' := (28, [(0, .ref 69), (1, .int (nI d)), (2, .int (nI (y + 1)))], [])) (h' := zH (zb v 68 (upd (upd (v 68) 0 0) 11 0)) w t) rfl ?_
      simp only [zl_msnG, zk_or, if_pos c1] at hk
      exact hk
    · have c1 : ¬ ((zr_mhasBit (zr_mstrikersIn D (v 71) (nI y)) (nI d)) = 0) := of_decide_eq_false c1
      simp only [zl_msnG, zk_or, if_neg c1] at hk
      exact hk
/-- BasketKeepModel.strikesNext -/
theorem zM_strikesNext_f (D : Nat) (hD : v 71 1 = nI D) (h8 : D ≤ 8) (hev : ∀ d, d < D → ¬ v 71 (7 + 2 * d) = 0) (d T : Nat) (hT : ¬ zr_mhasBit (zr_mstrikersIn D (v 71) (nI T)) (nI d) = 0) (hT3 : T < 2 ^ 31) (hd : d < 8) (hg : zr_misX (v 68 14) (v 71 1) (nI d) = 1) (y : Nat) (hy : v 75 15 = nI y) (hyT : y + 1 ≤ T) : zk_Cr zk_mt zk_ex Ls xs 178 [.ref 69, .int (nI d)] (zH v w t) (some (.int (nI (zw (zl_msnG D (v 71) d) (T + 1) (y + 1)))), zH (zb v 68 (upd (upd (v 68) 0 0) 11 0)) w t) := by
  refine zk_Cr.of (K := zm_178) rfl rfl rfl ?_
  show zk_T zk_mt zk_ex Ls xs zm_178 (0, [(0, .ref 69), (1, .int (nI d))], []) (zH v w t) _
  refine zk_T.adv 1 (f' := (1, [(0, .ref 69), (1, .int (nI d))], [.ref 69])) (h' := zH v w t) rfl ?_
  refine zk_T.cl (v := none) (h' := zH (zb v 68 (upd (upd (v 68) 0 0) 11 0)) w t) rfl (zs_manew (v := v) (w := w)) ?_
  show zk_T zk_mt zk_ex Ls xs zm_178 (4, [(0, .ref 69), (1, .int (nI d))], []) (zH (zb v 68 (upd (upd (v 68) 0 0) 11 0)) w t) _
  refine zk_T.adv 2 (f' := (6, [(0, .ref 69), (1, .int (nI d))], [.int (nI d), .ref 69])) (h' := zH (zb v 68 (upd (upd (v 68) 0 0) 11 0)) w t) rfl ?_
  refine zk_T.cl (v := some (.int 1)) (h' := zH (zb v 68 (upd (upd (v 68) 0 0) 11 0)) w t) rfl (by have ee_ : zk_Cr zk_mt zk_ex Ls xs 116 [.ref 69, .int (nI d)] (zH (zb v 68 (upd (upd (v 68) 0 0) 11 0)) w t) (some (.int (zr_misX (v 68 14) (v 71 1) (nI d))), zH (zb v 68 (upd (upd (v 68) 0 0) 11 0)) w t) := zs_misDanger (v := (zb v 68 (upd (upd (v 68) 0 0) 11 0))) (w := w) (nI d); rw [show (zr_misX (v 68 14) (v 71 1) (nI d)) = 1 from hg] at ee_; exact ee_) ?_
  show zk_T zk_mt zk_ex Ls xs zm_178 (9, [(0, .ref 69), (1, .int (nI d))], [.int 1]) (zH (zb v 68 (upd (upd (v 68) 0 0) 11 0)) w t) _
  refine zk_T.br (f1 := (12, [(0, .ref 69), (1, .int (nI d))], [])) (f2 := (18, [(0, .ref 69), (1, .int (nI d))], [])) rfl (fun c1 => absurd (of_decide_eq_true c1) (by decide)) (fun c1 => ?_)
  refine zk_T.adv 3 (f' := (24, [(0, .ref 69), (1, .int (nI d))], [.int 15, .ref 76])) (h' := zH (zb v 68 (upd (upd (v 68) 0 0) 11 0)) w t) rfl ?_
  refine zk_T.ob (f' := (25, [(0, .ref 69), (1, .int (nI d))], [.int (v 75 (15 : Int32).toNatClampNeg)])) (h' := zH (zb v 68 (upd (upd (v 68) 0 0) 11 0)) w t) rfl rfl ?_
  show zk_T zk_mt zk_ex Ls xs zm_178 (25, [(0, .ref 69), (1, .int (nI d))], [.int (v 75 15)]) (zH (zb v 68 (upd (upd (v 68) 0 0) 11 0)) w t) _
  rw [hy]
  refine zk_T.adv 2 (f' := (27, [(0, .ref 69), (1, .int (nI d))], [.int ((nI y) + 1)])) (h' := zH (zb v 68 (upd (upd (v 68) 0 0) 11 0)) w t) rfl ?_
  rw [show (nI y) + 1 = nI (y + 1) from nI_add y 1]
  refine zk_T.adv 1 (f' := (28, [(0, .ref 69), (1, .int (nI d)), (2, .int (nI (y + 1)))], [])) (h' := zH (zb v 68 (upd (upd (v 68) 0 0) 11 0)) w t) rfl ?_
  refine zl_msn (v := v) (w := w) (t := t) D hD h8 hev d T hT hT3 (T + 1) (y + 1) _ hyT (by omega) ?_
  show zk_T zk_mt zk_ex Ls xs zm_178 (46, [(0, .ref 69), (1, .int (nI d)), (2, .int (nI (zw (zl_msnG D (v 71) d) (T + 1) (y + 1))))], []) (zH (zb v 68 (upd (upd (v 68) 0 0) 11 0)) w t) _
  refine zk_T.adv 1 (f' := (47, [(0, .ref 69), (1, .int (nI d)), (2, .int (nI (zw (zl_msnG D (v 71) d) (T + 1) (y + 1))))], [.int (nI (zw (zl_msnG D (v 71) d) (T + 1) (y + 1)))])) (h' := zH (zb v 68 (upd (upd (v 68) 0 0) 11 0)) w t) rfl ?_
  exact zk_T.rt rfl rfl (by rfl)
/-- BasketKeepModel.worthIn -/
theorem zM_worthIn_t (x : Int32) (hst : v 68 14 = 0) : zk_Cr zk_mt zk_ex Ls xs 274 [.ref 69, .int x] (zH v w t) (some (.int (-1)), zH (zb v 68 (upd (upd (v 68) 0 0) 11 1)) w t) := by
  refine zk_Cr.of (K := zm_274) rfl rfl rfl ?_
  show zk_T zk_mt zk_ex Ls xs zm_274 (0, [(0, .ref 69), (1, .int x)], []) (zH v w t) _
  refine zk_T.adv 1 (f' := (1, [(0, .ref 69), (1, .int x)], [.ref 69])) (h' := zH v w t) rfl ?_
  refine zk_T.cl (v := none) (h' := zH (zb v 68 (upd (upd (v 68) 0 0) 11 0)) w t) rfl (zs_manew (v := v) (w := w)) ?_
  show zk_T zk_mt zk_ex Ls xs zm_274 (4, [(0, .ref 69), (1, .int x)], []) (zH (zb v 68 (upd (upd (v 68) 0 0) 11 0)) w t) _
  refine zk_T.adv 3 (f' := (9, [(0, .ref 69), (1, .int x)], [.int (v 68 14), .ref 69])) (h' := zH (zb v 68 (upd (upd (v 68) 0 0) 11 0)) w t) rfl ?_
  rw [show (v 68 14) = 0 from hst]
  refine zk_T.adv 1 (f' := (10, [(0, .ref 69), (1, .int x)], [.int x, .int 0, .ref 69])) (h' := zH (zb v 68 (upd (upd (v 68) 0 0) 11 0)) w t) rfl ?_
  refine zk_T.cl (v := some (.int 1)) (h' := zH (zb v 68 (upd (upd (v 68) 0 0) 11 0)) w t) rfl (zs_maheadWhy (v := (zb v 68 (upd (upd (v 68) 0 0) 11 0))) (w := w) 0 x) ?_
  show zk_T zk_mt zk_ex Ls xs zm_274 (13, [(0, .ref 69), (1, .int x)], [.int 1]) (zH (zb v 68 (upd (upd (v 68) 0 0) 11 0)) w t) _
  refine zk_T.adv 2 (f' := (15, [(0, .ref 69), (1, .int x), (2, .int 1)], [.int 1])) (h' := zH (zb v 68 (upd (upd (v 68) 0 0) 11 0)) w t) rfl ?_
  refine zk_T.br (f1 := (24, [(0, .ref 69), (1, .int x), (2, .int 1)], [])) (f2 := (18, [(0, .ref 69), (1, .int x), (2, .int 1)], [])) rfl (fun c1 => absurd (of_decide_eq_true c1) (by decide)) (fun c1 => ?_)
  refine zk_T.adv 2 (f' := (20, [(0, .ref 69), (1, .int x), (2, .int 1)], [.int 1, .ref 69])) (h' := zH (zb v 68 (upd (upd (v 68) 0 0) 11 0)) w t) rfl ?_
  refine zk_T.cl (v := some (.int (-1))) (h' := zH (zb v 68 (upd (upd (v 68) 0 0) 11 1)) w t) rfl (zs_mno (v := (zb v 68 (upd (upd (v 68) 0 0) 11 0))) (w := w) 1) ?_
  show zk_T zk_mt zk_ex Ls xs zm_274 (23, [(0, .ref 69), (1, .int x), (2, .int 1)], [.int (-1)]) (zH (zb v 68 (upd (upd (v 68) 0 0) 11 1)) w t) _
  exact zk_T.rt rfl rfl (by rfl)
/-- BasketKeepModel.worthIn -/
theorem zM_worthIn_o (x : Int32) (hst : v 68 14 = 1) (hw : zr_maheadWhy 1 x = 2) : zk_Cr zk_mt zk_ex Ls xs 274 [.ref 69, .int x] (zH v w t) (some (.int (-1)), zH (zb v 68 (upd (upd (v 68) 0 0) 11 2)) w t) := by
  refine zk_Cr.of (K := zm_274) rfl rfl rfl ?_
  show zk_T zk_mt zk_ex Ls xs zm_274 (0, [(0, .ref 69), (1, .int x)], []) (zH v w t) _
  refine zk_T.adv 1 (f' := (1, [(0, .ref 69), (1, .int x)], [.ref 69])) (h' := zH v w t) rfl ?_
  refine zk_T.cl (v := none) (h' := zH (zb v 68 (upd (upd (v 68) 0 0) 11 0)) w t) rfl (zs_manew (v := v) (w := w)) ?_
  show zk_T zk_mt zk_ex Ls xs zm_274 (4, [(0, .ref 69), (1, .int x)], []) (zH (zb v 68 (upd (upd (v 68) 0 0) 11 0)) w t) _
  refine zk_T.adv 3 (f' := (9, [(0, .ref 69), (1, .int x)], [.int (v 68 14), .ref 69])) (h' := zH (zb v 68 (upd (upd (v 68) 0 0) 11 0)) w t) rfl ?_
  rw [show (v 68 14) = 1 from hst]
  refine zk_T.adv 1 (f' := (10, [(0, .ref 69), (1, .int x)], [.int x, .int 1, .ref 69])) (h' := zH (zb v 68 (upd (upd (v 68) 0 0) 11 0)) w t) rfl ?_
  refine zk_T.cl (v := some (.int 2)) (h' := zH (zb v 68 (upd (upd (v 68) 0 0) 11 0)) w t) rfl (by have ee_ : zk_Cr zk_mt zk_ex Ls xs 108 [.ref 69, .int 1, .int x] (zH (zb v 68 (upd (upd (v 68) 0 0) 11 0)) w t) (some (.int (zr_maheadWhy 1 x)), zH (zb v 68 (upd (upd (v 68) 0 0) 11 0)) w t) := zs_maheadWhy (v := (zb v 68 (upd (upd (v 68) 0 0) 11 0))) (w := w) 1 x; rw [show (zr_maheadWhy 1 x) = 2 from hw] at ee_; exact ee_) ?_
  show zk_T zk_mt zk_ex Ls xs zm_274 (13, [(0, .ref 69), (1, .int x)], [.int 2]) (zH (zb v 68 (upd (upd (v 68) 0 0) 11 0)) w t) _
  refine zk_T.adv 2 (f' := (15, [(0, .ref 69), (1, .int x), (2, .int 2)], [.int 2])) (h' := zH (zb v 68 (upd (upd (v 68) 0 0) 11 0)) w t) rfl ?_
  refine zk_T.br (f1 := (24, [(0, .ref 69), (1, .int x), (2, .int 2)], [])) (f2 := (18, [(0, .ref 69), (1, .int x), (2, .int 2)], [])) rfl (fun c1 => absurd (of_decide_eq_true c1) (by decide)) (fun c1 => ?_)
  refine zk_T.adv 2 (f' := (20, [(0, .ref 69), (1, .int x), (2, .int 2)], [.int 2, .ref 69])) (h' := zH (zb v 68 (upd (upd (v 68) 0 0) 11 0)) w t) rfl ?_
  refine zk_T.cl (v := some (.int (-1))) (h' := zH (zb v 68 (upd (upd (v 68) 0 0) 11 2)) w t) rfl (zs_mno (v := (zb v 68 (upd (upd (v 68) 0 0) 11 0))) (w := w) 2) ?_
  show zk_T zk_mt zk_ex Ls xs zm_274 (23, [(0, .ref 69), (1, .int x), (2, .int 2)], [.int (-1)]) (zH (zb v 68 (upd (upd (v 68) 0 0) 11 2)) w t) _
  exact zk_T.rt rfl rfl (by rfl)
/-- BasketKeepModel.lost -/
theorem zM_lost_t (x : Int32) (hst : v 68 14 = 0) : zk_Cr zk_mt zk_ex Ls xs 265 [.ref 69, .int x] (zH v w t) (some (.int (-1)), zH (zb v 68 (upd (upd (v 68) 0 0) 11 1)) w t) := by
  refine zk_Cr.of (K := zm_265) rfl rfl rfl ?_
  show zk_T zk_mt zk_ex Ls xs zm_265 (0, [(0, .ref 69), (1, .int x)], []) (zH v w t) _
  refine zk_T.adv 1 (f' := (1, [(0, .ref 69), (1, .int x)], [.ref 69])) (h' := zH v w t) rfl ?_
  refine zk_T.cl (v := none) (h' := zH (zb v 68 (upd (upd (v 68) 0 0) 11 0)) w t) rfl (zs_manew (v := v) (w := w)) ?_
  show zk_T zk_mt zk_ex Ls xs zm_265 (4, [(0, .ref 69), (1, .int x)], []) (zH (zb v 68 (upd (upd (v 68) 0 0) 11 0)) w t) _
  refine zk_T.adv 3 (f' := (9, [(0, .ref 69), (1, .int x)], [.int (v 68 14), .ref 69])) (h' := zH (zb v 68 (upd (upd (v 68) 0 0) 11 0)) w t) rfl ?_
  rw [show (v 68 14) = 0 from hst]
  refine zk_T.adv 1 (f' := (10, [(0, .ref 69), (1, .int x)], [.int x, .int 0, .ref 69])) (h' := zH (zb v 68 (upd (upd (v 68) 0 0) 11 0)) w t) rfl ?_
  refine zk_T.cl (v := some (.int 1)) (h' := zH (zb v 68 (upd (upd (v 68) 0 0) 11 0)) w t) rfl (zs_maheadWhy (v := (zb v 68 (upd (upd (v 68) 0 0) 11 0))) (w := w) 0 x) ?_
  show zk_T zk_mt zk_ex Ls xs zm_265 (13, [(0, .ref 69), (1, .int x)], [.int 1]) (zH (zb v 68 (upd (upd (v 68) 0 0) 11 0)) w t) _
  refine zk_T.adv 2 (f' := (15, [(0, .ref 69), (1, .int x), (2, .int 1)], [.int 1])) (h' := zH (zb v 68 (upd (upd (v 68) 0 0) 11 0)) w t) rfl ?_
  refine zk_T.br (f1 := (24, [(0, .ref 69), (1, .int x), (2, .int 1)], [])) (f2 := (18, [(0, .ref 69), (1, .int x), (2, .int 1)], [])) rfl (fun c1 => absurd (of_decide_eq_true c1) (by decide)) (fun c1 => ?_)
  refine zk_T.adv 2 (f' := (20, [(0, .ref 69), (1, .int x), (2, .int 1)], [.int 1, .ref 69])) (h' := zH (zb v 68 (upd (upd (v 68) 0 0) 11 0)) w t) rfl ?_
  refine zk_T.cl (v := some (.int (-1))) (h' := zH (zb v 68 (upd (upd (v 68) 0 0) 11 1)) w t) rfl (zs_mno (v := (zb v 68 (upd (upd (v 68) 0 0) 11 0))) (w := w) 1) ?_
  show zk_T zk_mt zk_ex Ls xs zm_265 (23, [(0, .ref 69), (1, .int x), (2, .int 1)], [.int (-1)]) (zH (zb v 68 (upd (upd (v 68) 0 0) 11 1)) w t) _
  exact zk_T.rt rfl rfl (by rfl)
/-- BasketKeepModel.lost -/
theorem zM_lost_o (x : Int32) (hst : v 68 14 = 1) (hw : zr_maheadWhy 1 x = 2) : zk_Cr zk_mt zk_ex Ls xs 265 [.ref 69, .int x] (zH v w t) (some (.int (-1)), zH (zb v 68 (upd (upd (v 68) 0 0) 11 2)) w t) := by
  refine zk_Cr.of (K := zm_265) rfl rfl rfl ?_
  show zk_T zk_mt zk_ex Ls xs zm_265 (0, [(0, .ref 69), (1, .int x)], []) (zH v w t) _
  refine zk_T.adv 1 (f' := (1, [(0, .ref 69), (1, .int x)], [.ref 69])) (h' := zH v w t) rfl ?_
  refine zk_T.cl (v := none) (h' := zH (zb v 68 (upd (upd (v 68) 0 0) 11 0)) w t) rfl (zs_manew (v := v) (w := w)) ?_
  show zk_T zk_mt zk_ex Ls xs zm_265 (4, [(0, .ref 69), (1, .int x)], []) (zH (zb v 68 (upd (upd (v 68) 0 0) 11 0)) w t) _
  refine zk_T.adv 3 (f' := (9, [(0, .ref 69), (1, .int x)], [.int (v 68 14), .ref 69])) (h' := zH (zb v 68 (upd (upd (v 68) 0 0) 11 0)) w t) rfl ?_
  rw [show (v 68 14) = 1 from hst]
  refine zk_T.adv 1 (f' := (10, [(0, .ref 69), (1, .int x)], [.int x, .int 1, .ref 69])) (h' := zH (zb v 68 (upd (upd (v 68) 0 0) 11 0)) w t) rfl ?_
  refine zk_T.cl (v := some (.int 2)) (h' := zH (zb v 68 (upd (upd (v 68) 0 0) 11 0)) w t) rfl (by have ee_ : zk_Cr zk_mt zk_ex Ls xs 108 [.ref 69, .int 1, .int x] (zH (zb v 68 (upd (upd (v 68) 0 0) 11 0)) w t) (some (.int (zr_maheadWhy 1 x)), zH (zb v 68 (upd (upd (v 68) 0 0) 11 0)) w t) := zs_maheadWhy (v := (zb v 68 (upd (upd (v 68) 0 0) 11 0))) (w := w) 1 x; rw [show (zr_maheadWhy 1 x) = 2 from hw] at ee_; exact ee_) ?_
  show zk_T zk_mt zk_ex Ls xs zm_265 (13, [(0, .ref 69), (1, .int x)], [.int 2]) (zH (zb v 68 (upd (upd (v 68) 0 0) 11 0)) w t) _
  refine zk_T.adv 2 (f' := (15, [(0, .ref 69), (1, .int x), (2, .int 2)], [.int 2])) (h' := zH (zb v 68 (upd (upd (v 68) 0 0) 11 0)) w t) rfl ?_
  refine zk_T.br (f1 := (24, [(0, .ref 69), (1, .int x), (2, .int 2)], [])) (f2 := (18, [(0, .ref 69), (1, .int x), (2, .int 2)], [])) rfl (fun c1 => absurd (of_decide_eq_true c1) (by decide)) (fun c1 => ?_)
  refine zk_T.adv 2 (f' := (20, [(0, .ref 69), (1, .int x), (2, .int 2)], [.int 2, .ref 69])) (h' := zH (zb v 68 (upd (upd (v 68) 0 0) 11 0)) w t) rfl ?_
  refine zk_T.cl (v := some (.int (-1))) (h' := zH (zb v 68 (upd (upd (v 68) 0 0) 11 2)) w t) rfl (zs_mno (v := (zb v 68 (upd (upd (v 68) 0 0) 11 0))) (w := w) 2) ?_
  show zk_T zk_mt zk_ex Ls xs zm_265 (23, [(0, .ref 69), (1, .int x), (2, .int 2)], [.int (-1)]) (zH (zb v 68 (upd (upd (v 68) 0 0) 11 2)) w t) _
  exact zk_T.rt rfl rfl (by rfl)
/-- BasketKeepModel.keptOut -/
theorem zM_keptOut_t (x : Int32) (hst : v 68 14 = 0) : zk_Cr zk_mt zk_ex Ls xs 261 [.ref 69, .int x] (zH v w t) (some (.int (-1)), zH (zb v 68 (upd (upd (v 68) 0 0) 11 1)) w t) := by
  refine zk_Cr.of (K := zm_261) rfl rfl rfl ?_
  show zk_T zk_mt zk_ex Ls xs zm_261 (0, [(0, .ref 69), (1, .int x)], []) (zH v w t) _
  refine zk_T.adv 1 (f' := (1, [(0, .ref 69), (1, .int x)], [.ref 69])) (h' := zH v w t) rfl ?_
  refine zk_T.cl (v := none) (h' := zH (zb v 68 (upd (upd (v 68) 0 0) 11 0)) w t) rfl (zs_manew (v := v) (w := w)) ?_
  show zk_T zk_mt zk_ex Ls xs zm_261 (4, [(0, .ref 69), (1, .int x)], []) (zH (zb v 68 (upd (upd (v 68) 0 0) 11 0)) w t) _
  refine zk_T.adv 3 (f' := (9, [(0, .ref 69), (1, .int x)], [.int (v 68 14), .ref 69])) (h' := zH (zb v 68 (upd (upd (v 68) 0 0) 11 0)) w t) rfl ?_
  rw [show (v 68 14) = 0 from hst]
  refine zk_T.adv 1 (f' := (10, [(0, .ref 69), (1, .int x)], [.int x, .int 0, .ref 69])) (h' := zH (zb v 68 (upd (upd (v 68) 0 0) 11 0)) w t) rfl ?_
  refine zk_T.cl (v := some (.int 1)) (h' := zH (zb v 68 (upd (upd (v 68) 0 0) 11 0)) w t) rfl (zs_maheadWhy (v := (zb v 68 (upd (upd (v 68) 0 0) 11 0))) (w := w) 0 x) ?_
  show zk_T zk_mt zk_ex Ls xs zm_261 (13, [(0, .ref 69), (1, .int x)], [.int 1]) (zH (zb v 68 (upd (upd (v 68) 0 0) 11 0)) w t) _
  refine zk_T.adv 2 (f' := (15, [(0, .ref 69), (1, .int x), (2, .int 1)], [.int 1])) (h' := zH (zb v 68 (upd (upd (v 68) 0 0) 11 0)) w t) rfl ?_
  refine zk_T.br (f1 := (24, [(0, .ref 69), (1, .int x), (2, .int 1)], [])) (f2 := (18, [(0, .ref 69), (1, .int x), (2, .int 1)], [])) rfl (fun c1 => absurd (of_decide_eq_true c1) (by decide)) (fun c1 => ?_)
  refine zk_T.adv 2 (f' := (20, [(0, .ref 69), (1, .int x), (2, .int 1)], [.int 1, .ref 69])) (h' := zH (zb v 68 (upd (upd (v 68) 0 0) 11 0)) w t) rfl ?_
  refine zk_T.cl (v := some (.int (-1))) (h' := zH (zb v 68 (upd (upd (v 68) 0 0) 11 1)) w t) rfl (zs_mno (v := (zb v 68 (upd (upd (v 68) 0 0) 11 0))) (w := w) 1) ?_
  show zk_T zk_mt zk_ex Ls xs zm_261 (23, [(0, .ref 69), (1, .int x), (2, .int 1)], [.int (-1)]) (zH (zb v 68 (upd (upd (v 68) 0 0) 11 1)) w t) _
  exact zk_T.rt rfl rfl (by rfl)
/-- BasketKeepModel.keptOut -/
theorem zM_keptOut_o (x : Int32) (hst : v 68 14 = 1) (hw : zr_maheadWhy 1 x = 2) : zk_Cr zk_mt zk_ex Ls xs 261 [.ref 69, .int x] (zH v w t) (some (.int (-1)), zH (zb v 68 (upd (upd (v 68) 0 0) 11 2)) w t) := by
  refine zk_Cr.of (K := zm_261) rfl rfl rfl ?_
  show zk_T zk_mt zk_ex Ls xs zm_261 (0, [(0, .ref 69), (1, .int x)], []) (zH v w t) _
  refine zk_T.adv 1 (f' := (1, [(0, .ref 69), (1, .int x)], [.ref 69])) (h' := zH v w t) rfl ?_
  refine zk_T.cl (v := none) (h' := zH (zb v 68 (upd (upd (v 68) 0 0) 11 0)) w t) rfl (zs_manew (v := v) (w := w)) ?_
  show zk_T zk_mt zk_ex Ls xs zm_261 (4, [(0, .ref 69), (1, .int x)], []) (zH (zb v 68 (upd (upd (v 68) 0 0) 11 0)) w t) _
  refine zk_T.adv 3 (f' := (9, [(0, .ref 69), (1, .int x)], [.int (v 68 14), .ref 69])) (h' := zH (zb v 68 (upd (upd (v 68) 0 0) 11 0)) w t) rfl ?_
  rw [show (v 68 14) = 1 from hst]
  refine zk_T.adv 1 (f' := (10, [(0, .ref 69), (1, .int x)], [.int x, .int 1, .ref 69])) (h' := zH (zb v 68 (upd (upd (v 68) 0 0) 11 0)) w t) rfl ?_
  refine zk_T.cl (v := some (.int 2)) (h' := zH (zb v 68 (upd (upd (v 68) 0 0) 11 0)) w t) rfl (by have ee_ : zk_Cr zk_mt zk_ex Ls xs 108 [.ref 69, .int 1, .int x] (zH (zb v 68 (upd (upd (v 68) 0 0) 11 0)) w t) (some (.int (zr_maheadWhy 1 x)), zH (zb v 68 (upd (upd (v 68) 0 0) 11 0)) w t) := zs_maheadWhy (v := (zb v 68 (upd (upd (v 68) 0 0) 11 0))) (w := w) 1 x; rw [show (zr_maheadWhy 1 x) = 2 from hw] at ee_; exact ee_) ?_
  show zk_T zk_mt zk_ex Ls xs zm_261 (13, [(0, .ref 69), (1, .int x)], [.int 2]) (zH (zb v 68 (upd (upd (v 68) 0 0) 11 0)) w t) _
  refine zk_T.adv 2 (f' := (15, [(0, .ref 69), (1, .int x), (2, .int 2)], [.int 2])) (h' := zH (zb v 68 (upd (upd (v 68) 0 0) 11 0)) w t) rfl ?_
  refine zk_T.br (f1 := (24, [(0, .ref 69), (1, .int x), (2, .int 2)], [])) (f2 := (18, [(0, .ref 69), (1, .int x), (2, .int 2)], [])) rfl (fun c1 => absurd (of_decide_eq_true c1) (by decide)) (fun c1 => ?_)
  refine zk_T.adv 2 (f' := (20, [(0, .ref 69), (1, .int x), (2, .int 2)], [.int 2, .ref 69])) (h' := zH (zb v 68 (upd (upd (v 68) 0 0) 11 0)) w t) rfl ?_
  refine zk_T.cl (v := some (.int (-1))) (h' := zH (zb v 68 (upd (upd (v 68) 0 0) 11 2)) w t) rfl (zs_mno (v := (zb v 68 (upd (upd (v 68) 0 0) 11 0))) (w := w) 2) ?_
  show zk_T zk_mt zk_ex Ls xs zm_261 (23, [(0, .ref 69), (1, .int x), (2, .int 2)], [.int (-1)]) (zH (zb v 68 (upd (upd (v 68) 0 0) 11 2)) w t) _
  exact zk_T.rt rfl rfl (by rfl)
/-- BasketKeepModel.busiest -/
theorem zM_busiest_t (x : Int32) (hst : v 68 14 = 0) : zk_Cr zk_mt zk_ex Ls xs 257 [.ref 69, .int x] (zH v w t) (some (.int (-1)), zH (zb v 68 (upd (upd (v 68) 0 0) 11 1)) w t) := by
  refine zk_Cr.of (K := zm_257) rfl rfl rfl ?_
  show zk_T zk_mt zk_ex Ls xs zm_257 (0, [(0, .ref 69), (1, .int x)], []) (zH v w t) _
  refine zk_T.adv 1 (f' := (1, [(0, .ref 69), (1, .int x)], [.ref 69])) (h' := zH v w t) rfl ?_
  refine zk_T.cl (v := none) (h' := zH (zb v 68 (upd (upd (v 68) 0 0) 11 0)) w t) rfl (zs_manew (v := v) (w := w)) ?_
  show zk_T zk_mt zk_ex Ls xs zm_257 (4, [(0, .ref 69), (1, .int x)], []) (zH (zb v 68 (upd (upd (v 68) 0 0) 11 0)) w t) _
  refine zk_T.adv 3 (f' := (9, [(0, .ref 69), (1, .int x)], [.int (v 68 14), .ref 69])) (h' := zH (zb v 68 (upd (upd (v 68) 0 0) 11 0)) w t) rfl ?_
  rw [show (v 68 14) = 0 from hst]
  refine zk_T.adv 1 (f' := (10, [(0, .ref 69), (1, .int x)], [.int x, .int 0, .ref 69])) (h' := zH (zb v 68 (upd (upd (v 68) 0 0) 11 0)) w t) rfl ?_
  refine zk_T.cl (v := some (.int 1)) (h' := zH (zb v 68 (upd (upd (v 68) 0 0) 11 0)) w t) rfl (zs_maheadWhy (v := (zb v 68 (upd (upd (v 68) 0 0) 11 0))) (w := w) 0 x) ?_
  show zk_T zk_mt zk_ex Ls xs zm_257 (13, [(0, .ref 69), (1, .int x)], [.int 1]) (zH (zb v 68 (upd (upd (v 68) 0 0) 11 0)) w t) _
  refine zk_T.adv 2 (f' := (15, [(0, .ref 69), (1, .int x), (2, .int 1)], [.int 1])) (h' := zH (zb v 68 (upd (upd (v 68) 0 0) 11 0)) w t) rfl ?_
  refine zk_T.br (f1 := (24, [(0, .ref 69), (1, .int x), (2, .int 1)], [])) (f2 := (18, [(0, .ref 69), (1, .int x), (2, .int 1)], [])) rfl (fun c1 => absurd (of_decide_eq_true c1) (by decide)) (fun c1 => ?_)
  refine zk_T.adv 2 (f' := (20, [(0, .ref 69), (1, .int x), (2, .int 1)], [.int 1, .ref 69])) (h' := zH (zb v 68 (upd (upd (v 68) 0 0) 11 0)) w t) rfl ?_
  refine zk_T.cl (v := some (.int (-1))) (h' := zH (zb v 68 (upd (upd (v 68) 0 0) 11 1)) w t) rfl (zs_mno (v := (zb v 68 (upd (upd (v 68) 0 0) 11 0))) (w := w) 1) ?_
  show zk_T zk_mt zk_ex Ls xs zm_257 (23, [(0, .ref 69), (1, .int x), (2, .int 1)], [.int (-1)]) (zH (zb v 68 (upd (upd (v 68) 0 0) 11 1)) w t) _
  exact zk_T.rt rfl rfl (by rfl)
/-- BasketKeepModel.busiest -/
theorem zM_busiest_o (x : Int32) (hst : v 68 14 = 1) (hw : zr_maheadWhy 1 x = 2) : zk_Cr zk_mt zk_ex Ls xs 257 [.ref 69, .int x] (zH v w t) (some (.int (-1)), zH (zb v 68 (upd (upd (v 68) 0 0) 11 2)) w t) := by
  refine zk_Cr.of (K := zm_257) rfl rfl rfl ?_
  show zk_T zk_mt zk_ex Ls xs zm_257 (0, [(0, .ref 69), (1, .int x)], []) (zH v w t) _
  refine zk_T.adv 1 (f' := (1, [(0, .ref 69), (1, .int x)], [.ref 69])) (h' := zH v w t) rfl ?_
  refine zk_T.cl (v := none) (h' := zH (zb v 68 (upd (upd (v 68) 0 0) 11 0)) w t) rfl (zs_manew (v := v) (w := w)) ?_
  show zk_T zk_mt zk_ex Ls xs zm_257 (4, [(0, .ref 69), (1, .int x)], []) (zH (zb v 68 (upd (upd (v 68) 0 0) 11 0)) w t) _
  refine zk_T.adv 3 (f' := (9, [(0, .ref 69), (1, .int x)], [.int (v 68 14), .ref 69])) (h' := zH (zb v 68 (upd (upd (v 68) 0 0) 11 0)) w t) rfl ?_
  rw [show (v 68 14) = 1 from hst]
  refine zk_T.adv 1 (f' := (10, [(0, .ref 69), (1, .int x)], [.int x, .int 1, .ref 69])) (h' := zH (zb v 68 (upd (upd (v 68) 0 0) 11 0)) w t) rfl ?_
  refine zk_T.cl (v := some (.int 2)) (h' := zH (zb v 68 (upd (upd (v 68) 0 0) 11 0)) w t) rfl (by have ee_ : zk_Cr zk_mt zk_ex Ls xs 108 [.ref 69, .int 1, .int x] (zH (zb v 68 (upd (upd (v 68) 0 0) 11 0)) w t) (some (.int (zr_maheadWhy 1 x)), zH (zb v 68 (upd (upd (v 68) 0 0) 11 0)) w t) := zs_maheadWhy (v := (zb v 68 (upd (upd (v 68) 0 0) 11 0))) (w := w) 1 x; rw [show (zr_maheadWhy 1 x) = 2 from hw] at ee_; exact ee_) ?_
  show zk_T zk_mt zk_ex Ls xs zm_257 (13, [(0, .ref 69), (1, .int x)], [.int 2]) (zH (zb v 68 (upd (upd (v 68) 0 0) 11 0)) w t) _
  refine zk_T.adv 2 (f' := (15, [(0, .ref 69), (1, .int x), (2, .int 2)], [.int 2])) (h' := zH (zb v 68 (upd (upd (v 68) 0 0) 11 0)) w t) rfl ?_
  refine zk_T.br (f1 := (24, [(0, .ref 69), (1, .int x), (2, .int 2)], [])) (f2 := (18, [(0, .ref 69), (1, .int x), (2, .int 2)], [])) rfl (fun c1 => absurd (of_decide_eq_true c1) (by decide)) (fun c1 => ?_)
  refine zk_T.adv 2 (f' := (20, [(0, .ref 69), (1, .int x), (2, .int 2)], [.int 2, .ref 69])) (h' := zH (zb v 68 (upd (upd (v 68) 0 0) 11 0)) w t) rfl ?_
  refine zk_T.cl (v := some (.int (-1))) (h' := zH (zb v 68 (upd (upd (v 68) 0 0) 11 2)) w t) rfl (zs_mno (v := (zb v 68 (upd (upd (v 68) 0 0) 11 0))) (w := w) 2) ?_
  show zk_T zk_mt zk_ex Ls xs zm_257 (23, [(0, .ref 69), (1, .int x), (2, .int 2)], [.int (-1)]) (zH (zb v 68 (upd (upd (v 68) 0 0) 11 2)) w t) _
  exact zk_T.rt rfl rfl (by rfl)
/-- BasketKeepModel.worst -/
theorem zM_worst_t (x : Int32) (hst : v 68 14 = 0) : zk_Cr zk_mt zk_ex Ls xs 273 [.ref 69, .int x] (zH v w t) (some (.int (-1)), zH (zb v 68 (upd (upd (v 68) 0 0) 11 1)) w t) := by
  refine zk_Cr.of (K := zm_273) rfl rfl rfl ?_
  show zk_T zk_mt zk_ex Ls xs zm_273 (0, [(0, .ref 69), (1, .int x)], []) (zH v w t) _
  refine zk_T.adv 1 (f' := (1, [(0, .ref 69), (1, .int x)], [.ref 69])) (h' := zH v w t) rfl ?_
  refine zk_T.cl (v := none) (h' := zH (zb v 68 (upd (upd (v 68) 0 0) 11 0)) w t) rfl (zs_manew (v := v) (w := w)) ?_
  show zk_T zk_mt zk_ex Ls xs zm_273 (4, [(0, .ref 69), (1, .int x)], []) (zH (zb v 68 (upd (upd (v 68) 0 0) 11 0)) w t) _
  refine zk_T.adv 3 (f' := (9, [(0, .ref 69), (1, .int x)], [.int (v 68 14), .ref 69])) (h' := zH (zb v 68 (upd (upd (v 68) 0 0) 11 0)) w t) rfl ?_
  rw [show (v 68 14) = 0 from hst]
  refine zk_T.adv 1 (f' := (10, [(0, .ref 69), (1, .int x)], [.int x, .int 0, .ref 69])) (h' := zH (zb v 68 (upd (upd (v 68) 0 0) 11 0)) w t) rfl ?_
  refine zk_T.cl (v := some (.int 1)) (h' := zH (zb v 68 (upd (upd (v 68) 0 0) 11 0)) w t) rfl (zs_maheadWhy (v := (zb v 68 (upd (upd (v 68) 0 0) 11 0))) (w := w) 0 x) ?_
  show zk_T zk_mt zk_ex Ls xs zm_273 (13, [(0, .ref 69), (1, .int x)], [.int 1]) (zH (zb v 68 (upd (upd (v 68) 0 0) 11 0)) w t) _
  refine zk_T.adv 2 (f' := (15, [(0, .ref 69), (1, .int x), (2, .int 1)], [.int 1])) (h' := zH (zb v 68 (upd (upd (v 68) 0 0) 11 0)) w t) rfl ?_
  refine zk_T.br (f1 := (24, [(0, .ref 69), (1, .int x), (2, .int 1)], [])) (f2 := (18, [(0, .ref 69), (1, .int x), (2, .int 1)], [])) rfl (fun c1 => absurd (of_decide_eq_true c1) (by decide)) (fun c1 => ?_)
  refine zk_T.adv 2 (f' := (20, [(0, .ref 69), (1, .int x), (2, .int 1)], [.int 1, .ref 69])) (h' := zH (zb v 68 (upd (upd (v 68) 0 0) 11 0)) w t) rfl ?_
  refine zk_T.cl (v := some (.int (-1))) (h' := zH (zb v 68 (upd (upd (v 68) 0 0) 11 1)) w t) rfl (zs_mno (v := (zb v 68 (upd (upd (v 68) 0 0) 11 0))) (w := w) 1) ?_
  show zk_T zk_mt zk_ex Ls xs zm_273 (23, [(0, .ref 69), (1, .int x), (2, .int 1)], [.int (-1)]) (zH (zb v 68 (upd (upd (v 68) 0 0) 11 1)) w t) _
  exact zk_T.rt rfl rfl (by rfl)
/-- BasketKeepModel.worst -/
theorem zM_worst_o (x : Int32) (hst : v 68 14 = 1) (hw : zr_maheadWhy 1 x = 2) : zk_Cr zk_mt zk_ex Ls xs 273 [.ref 69, .int x] (zH v w t) (some (.int (-1)), zH (zb v 68 (upd (upd (v 68) 0 0) 11 2)) w t) := by
  refine zk_Cr.of (K := zm_273) rfl rfl rfl ?_
  show zk_T zk_mt zk_ex Ls xs zm_273 (0, [(0, .ref 69), (1, .int x)], []) (zH v w t) _
  refine zk_T.adv 1 (f' := (1, [(0, .ref 69), (1, .int x)], [.ref 69])) (h' := zH v w t) rfl ?_
  refine zk_T.cl (v := none) (h' := zH (zb v 68 (upd (upd (v 68) 0 0) 11 0)) w t) rfl (zs_manew (v := v) (w := w)) ?_
  show zk_T zk_mt zk_ex Ls xs zm_273 (4, [(0, .ref 69), (1, .int x)], []) (zH (zb v 68 (upd (upd (v 68) 0 0) 11 0)) w t) _
  refine zk_T.adv 3 (f' := (9, [(0, .ref 69), (1, .int x)], [.int (v 68 14), .ref 69])) (h' := zH (zb v 68 (upd (upd (v 68) 0 0) 11 0)) w t) rfl ?_
  rw [show (v 68 14) = 1 from hst]
  refine zk_T.adv 1 (f' := (10, [(0, .ref 69), (1, .int x)], [.int x, .int 1, .ref 69])) (h' := zH (zb v 68 (upd (upd (v 68) 0 0) 11 0)) w t) rfl ?_
  refine zk_T.cl (v := some (.int 2)) (h' := zH (zb v 68 (upd (upd (v 68) 0 0) 11 0)) w t) rfl (by have ee_ : zk_Cr zk_mt zk_ex Ls xs 108 [.ref 69, .int 1, .int x] (zH (zb v 68 (upd (upd (v 68) 0 0) 11 0)) w t) (some (.int (zr_maheadWhy 1 x)), zH (zb v 68 (upd (upd (v 68) 0 0) 11 0)) w t) := zs_maheadWhy (v := (zb v 68 (upd (upd (v 68) 0 0) 11 0))) (w := w) 1 x; rw [show (zr_maheadWhy 1 x) = 2 from hw] at ee_; exact ee_) ?_
  show zk_T zk_mt zk_ex Ls xs zm_273 (13, [(0, .ref 69), (1, .int x)], [.int 2]) (zH (zb v 68 (upd (upd (v 68) 0 0) 11 0)) w t) _
  refine zk_T.adv 2 (f' := (15, [(0, .ref 69), (1, .int x), (2, .int 2)], [.int 2])) (h' := zH (zb v 68 (upd (upd (v 68) 0 0) 11 0)) w t) rfl ?_
  refine zk_T.br (f1 := (24, [(0, .ref 69), (1, .int x), (2, .int 2)], [])) (f2 := (18, [(0, .ref 69), (1, .int x), (2, .int 2)], [])) rfl (fun c1 => absurd (of_decide_eq_true c1) (by decide)) (fun c1 => ?_)
  refine zk_T.adv 2 (f' := (20, [(0, .ref 69), (1, .int x), (2, .int 2)], [.int 2, .ref 69])) (h' := zH (zb v 68 (upd (upd (v 68) 0 0) 11 0)) w t) rfl ?_
  refine zk_T.cl (v := some (.int (-1))) (h' := zH (zb v 68 (upd (upd (v 68) 0 0) 11 2)) w t) rfl (zs_mno (v := (zb v 68 (upd (upd (v 68) 0 0) 11 0))) (w := w) 2) ?_
  show zk_T zk_mt zk_ex Ls xs zm_273 (23, [(0, .ref 69), (1, .int x), (2, .int 2)], [.int (-1)]) (zH (zb v 68 (upd (upd (v 68) 0 0) 11 2)) w t) _
  exact zk_T.rt rfl rfl (by rfl)
/-- BasketKeepModel.worthIn -/
theorem zM_worthIn_f (hst : v 68 14 = 1) (n : Nat) (hn : n ≤ 60) (D : Nat) (hD : v 71 1 = nI D) (h8 : D ≤ 8) (Gn : Nat) (hG : v 71 3 = nI Gn) (h4 : Gn ≤ 4) (hev : ∀ d, d < D → ¬ v 71 (7 + 2 * d) = 0) (hli : zk_lie Gn (v 75)) : zk_Cr zk_mt zk_ex Ls xs 274 [.ref 69, .int (nI n)] (zH v w t) (some (.int (zr_mworth Gn (v 71) ((zr_myears n D Gn (v 71) (v 75) (v 76) (v 80) (v 81) (v 82) (v 79)).1))), zH (zb (zb (zb (zb (zb (zb v 68 (upd (upd (upd (v 68) 0 0) 11 0) 26 ((zr_myears n D Gn (v 71) (v 75) (v 76) (v 80) (v 81) (v 82) (v 79)).2.1))) 76 ((zr_myears n D Gn (v 71) (v 75) (v 76) (v 80) (v 81) (v 82) (v 79)).1)) 79 ((zr_myears n D Gn (v 71) (v 75) (v 76) (v 80) (v 81) (v 82) (v 79)).2.2.2.2.2)) 80 ((zr_myears n D Gn (v 71) (v 75) (v 76) (v 80) (v 81) (v 82) (v 79)).2.2.1)) 81 ((zr_myears n D Gn (v 71) (v 75) (v 76) (v 80) (v 81) (v 82) (v 79)).2.2.2.1)) 82 ((zr_myears n D Gn (v 71) (v 75) (v 76) (v 80) (v 81) (v 82) (v 79)).2.2.2.2.1)) w t) := by
  refine zk_Cr.of (K := zm_274) rfl rfl rfl ?_
  show zk_T zk_mt zk_ex Ls xs zm_274 (0, [(0, .ref 69), (1, .int (nI n))], []) (zH v w t) _
  refine zk_T.adv 1 (f' := (1, [(0, .ref 69), (1, .int (nI n))], [.ref 69])) (h' := zH v w t) rfl ?_
  refine zk_T.cl (v := none) (h' := zH (zb v 68 (upd (upd (v 68) 0 0) 11 0)) w t) rfl (zs_manew (v := v) (w := w)) ?_
  show zk_T zk_mt zk_ex Ls xs zm_274 (4, [(0, .ref 69), (1, .int (nI n))], []) (zH (zb v 68 (upd (upd (v 68) 0 0) 11 0)) w t) _
  refine zk_T.adv 3 (f' := (9, [(0, .ref 69), (1, .int (nI n))], [.int (v 68 14), .ref 69])) (h' := zH (zb v 68 (upd (upd (v 68) 0 0) 11 0)) w t) rfl ?_
  rw [show (v 68 14) = 1 from hst]
  refine zk_T.adv 1 (f' := (10, [(0, .ref 69), (1, .int (nI n))], [.int (nI n), .int 1, .ref 69])) (h' := zH (zb v 68 (upd (upd (v 68) 0 0) 11 0)) w t) rfl ?_
  refine zk_T.cl (v := some (.int 0)) (h' := zH (zb v 68 (upd (upd (v 68) 0 0) 11 0)) w t) rfl (by have ee_ : zk_Cr zk_mt zk_ex Ls xs 108 [.ref 69, .int 1, .int (nI n)] (zH (zb v 68 (upd (upd (v 68) 0 0) 11 0)) w t) (some (.int (zr_maheadWhy 1 (nI n))), zH (zb v 68 (upd (upd (v 68) 0 0) 11 0)) w t) := zs_maheadWhy (v := (zb v 68 (upd (upd (v 68) 0 0) 11 0))) (w := w) 1 (nI n); rw [show (zr_maheadWhy 1 (nI n)) = 0 from (zk_ah1 n hn)] at ee_; exact ee_) ?_
  show zk_T zk_mt zk_ex Ls xs zm_274 (13, [(0, .ref 69), (1, .int (nI n))], [.int 0]) (zH (zb v 68 (upd (upd (v 68) 0 0) 11 0)) w t) _
  refine zk_T.adv 2 (f' := (15, [(0, .ref 69), (1, .int (nI n)), (2, .int 0)], [.int 0])) (h' := zH (zb v 68 (upd (upd (v 68) 0 0) 11 0)) w t) rfl ?_
  refine zk_T.br (f1 := (24, [(0, .ref 69), (1, .int (nI n)), (2, .int 0)], [])) (f2 := (18, [(0, .ref 69), (1, .int (nI n)), (2, .int 0)], [])) rfl (fun c1 => ?_) (fun c1 => absurd (by decide) (of_decide_eq_false c1))
  refine zk_T.adv 2 (f' := (26, [(0, .ref 69), (1, .int (nI n)), (2, .int 0)], [.int (nI n), .ref 69])) (h' := zH (zb v 68 (upd (upd (v 68) 0 0) 11 0)) w t) rfl ?_
  refine zk_T.cl (v := none) (h' := zH (zb (zb (zb (zb (zb (zb v 68 (upd (upd (upd (v 68) 0 0) 11 0) 26 ((zr_myears n D Gn (v 71) (v 75) (v 76) (v 80) (v 81) (v 82) (v 79)).2.1))) 76 ((zr_myears n D Gn (v 71) (v 75) (v 76) (v 80) (v 81) (v 82) (v 79)).1)) 79 ((zr_myears n D Gn (v 71) (v 75) (v 76) (v 80) (v 81) (v 82) (v 79)).2.2.2.2.2)) 80 ((zr_myears n D Gn (v 71) (v 75) (v 76) (v 80) (v 81) (v 82) (v 79)).2.2.1)) 81 ((zr_myears n D Gn (v 71) (v 75) (v 76) (v 80) (v 81) (v 82) (v 79)).2.2.2.1)) 82 ((zr_myears n D Gn (v 71) (v 75) (v 76) (v 80) (v 81) (v 82) (v 79)).2.2.2.2.1)) w t) rfl (zs_myearsOn (v := (zb v 68 (upd (upd (v 68) 0 0) 11 0))) (w := w) n (by omega) D hD h8 Gn hG h4 hev hli) ?_
  show zk_T zk_mt zk_ex Ls xs zm_274 (29, [(0, .ref 69), (1, .int (nI n)), (2, .int 0)], []) (zH (zb (zb (zb (zb (zb (zb v 68 (upd (upd (upd (v 68) 0 0) 11 0) 26 ((zr_myears n D Gn (v 71) (v 75) (v 76) (v 80) (v 81) (v 82) (v 79)).2.1))) 76 ((zr_myears n D Gn (v 71) (v 75) (v 76) (v 80) (v 81) (v 82) (v 79)).1)) 79 ((zr_myears n D Gn (v 71) (v 75) (v 76) (v 80) (v 81) (v 82) (v 79)).2.2.2.2.2)) 80 ((zr_myears n D Gn (v 71) (v 75) (v 76) (v 80) (v 81) (v 82) (v 79)).2.2.1)) 81 ((zr_myears n D Gn (v 71) (v 75) (v 76) (v 80) (v 81) (v 82) (v 79)).2.2.2.1)) 82 ((zr_myears n D Gn (v 71) (v 75) (v 76) (v 80) (v 81) (v 82) (v 79)).2.2.2.2.1)) w t) _
  refine zk_T.adv 3 (f' := (34, [(0, .ref 69), (1, .int (nI n)), (2, .int 0)], [.ref 77, .ref 69])) (h' := zH (zb (zb (zb (zb (zb (zb v 68 (upd (upd (upd (v 68) 0 0) 11 0) 26 ((zr_myears n D Gn (v 71) (v 75) (v 76) (v 80) (v 81) (v 82) (v 79)).2.1))) 76 ((zr_myears n D Gn (v 71) (v 75) (v 76) (v 80) (v 81) (v 82) (v 79)).1)) 79 ((zr_myears n D Gn (v 71) (v 75) (v 76) (v 80) (v 81) (v 82) (v 79)).2.2.2.2.2)) 80 ((zr_myears n D Gn (v 71) (v 75) (v 76) (v 80) (v 81) (v 82) (v 79)).2.2.1)) 81 ((zr_myears n D Gn (v 71) (v 75) (v 76) (v 80) (v 81) (v 82) (v 79)).2.2.2.1)) 82 ((zr_myears n D Gn (v 71) (v 75) (v 76) (v 80) (v 81) (v 82) (v 79)).2.2.2.2.1)) w t) rfl ?_
  refine zk_T.cl (v := some (.int (zr_mworth Gn (v 71) ((zr_myears n D Gn (v 71) (v 75) (v 76) (v 80) (v 81) (v 82) (v 79)).1)))) (h' := zH (zb (zb (zb (zb (zb (zb v 68 (upd (upd (upd (v 68) 0 0) 11 0) 26 ((zr_myears n D Gn (v 71) (v 75) (v 76) (v 80) (v 81) (v 82) (v 79)).2.1))) 76 ((zr_myears n D Gn (v 71) (v 75) (v 76) (v 80) (v 81) (v 82) (v 79)).1)) 79 ((zr_myears n D Gn (v 71) (v 75) (v 76) (v 80) (v 81) (v 82) (v 79)).2.2.2.2.2)) 80 ((zr_myears n D Gn (v 71) (v 75) (v 76) (v 80) (v 81) (v 82) (v 79)).2.2.1)) 81 ((zr_myears n D Gn (v 71) (v 75) (v 76) (v 80) (v 81) (v 82) (v 79)).2.2.2.1)) 82 ((zr_myears n D Gn (v 71) (v 75) (v 76) (v 80) (v 81) (v 82) (v 79)).2.2.2.2.1)) w t) rfl (zs_mworthOnT (v := (zb (zb (zb (zb (zb (zb v 68 (upd (upd (upd (v 68) 0 0) 11 0) 26 ((zr_myears n D Gn (v 71) (v 75) (v 76) (v 80) (v 81) (v 82) (v 79)).2.1))) 76 ((zr_myears n D Gn (v 71) (v 75) (v 76) (v 80) (v 81) (v 82) (v 79)).1)) 79 ((zr_myears n D Gn (v 71) (v 75) (v 76) (v 80) (v 81) (v 82) (v 79)).2.2.2.2.2)) 80 ((zr_myears n D Gn (v 71) (v 75) (v 76) (v 80) (v 81) (v 82) (v 79)).2.2.1)) 81 ((zr_myears n D Gn (v 71) (v 75) (v 76) (v 80) (v 81) (v 82) (v 79)).2.2.2.1)) 82 ((zr_myears n D Gn (v 71) (v 75) (v 76) (v 80) (v 81) (v 82) (v 79)).2.2.2.2.1))) (w := w) Gn hG h4) ?_
  show zk_T zk_mt zk_ex Ls xs zm_274 (37, [(0, .ref 69), (1, .int (nI n)), (2, .int 0)], [.int (zr_mworth Gn (v 71) ((zr_myears n D Gn (v 71) (v 75) (v 76) (v 80) (v 81) (v 82) (v 79)).1))]) (zH (zb (zb (zb (zb (zb (zb v 68 (upd (upd (upd (v 68) 0 0) 11 0) 26 ((zr_myears n D Gn (v 71) (v 75) (v 76) (v 80) (v 81) (v 82) (v 79)).2.1))) 76 ((zr_myears n D Gn (v 71) (v 75) (v 76) (v 80) (v 81) (v 82) (v 79)).1)) 79 ((zr_myears n D Gn (v 71) (v 75) (v 76) (v 80) (v 81) (v 82) (v 79)).2.2.2.2.2)) 80 ((zr_myears n D Gn (v 71) (v 75) (v 76) (v 80) (v 81) (v 82) (v 79)).2.2.1)) 81 ((zr_myears n D Gn (v 71) (v 75) (v 76) (v 80) (v 81) (v 82) (v 79)).2.2.2.1)) 82 ((zr_myears n D Gn (v 71) (v 75) (v 76) (v 80) (v 81) (v 82) (v 79)).2.2.2.2.1)) w t) _
  exact zk_T.rt rfl rfl (by rfl)
/-- BasketKeepModel.lost -/
theorem zM_lost_f (hst : v 68 14 = 1) (n : Nat) (hn : n ≤ 60) (D : Nat) (hD : v 71 1 = nI D) (h8 : D ≤ 8) (Gn : Nat) (hG : v 71 3 = nI Gn) (h4 : Gn ≤ 4) (hev : ∀ d, d < D → ¬ v 71 (7 + 2 * d) = 0) (hli : zk_lie Gn (v 75)) : zk_Cr zk_mt zk_ex Ls xs 265 [.ref 69, .int (nI n)] (zH v w t) (some (.int (((zr_myears n D Gn (v 71) (v 75) (v 76) (v 80) (v 81) (v 82) (v 79)).1) 14)), zH (zb (zb (zb (zb (zb (zb v 68 (upd (upd (upd (v 68) 0 0) 11 0) 26 ((zr_myears n D Gn (v 71) (v 75) (v 76) (v 80) (v 81) (v 82) (v 79)).2.1))) 76 ((zr_myears n D Gn (v 71) (v 75) (v 76) (v 80) (v 81) (v 82) (v 79)).1)) 79 ((zr_myears n D Gn (v 71) (v 75) (v 76) (v 80) (v 81) (v 82) (v 79)).2.2.2.2.2)) 80 ((zr_myears n D Gn (v 71) (v 75) (v 76) (v 80) (v 81) (v 82) (v 79)).2.2.1)) 81 ((zr_myears n D Gn (v 71) (v 75) (v 76) (v 80) (v 81) (v 82) (v 79)).2.2.2.1)) 82 ((zr_myears n D Gn (v 71) (v 75) (v 76) (v 80) (v 81) (v 82) (v 79)).2.2.2.2.1)) w t) := by
  refine zk_Cr.of (K := zm_265) rfl rfl rfl ?_
  show zk_T zk_mt zk_ex Ls xs zm_265 (0, [(0, .ref 69), (1, .int (nI n))], []) (zH v w t) _
  refine zk_T.adv 1 (f' := (1, [(0, .ref 69), (1, .int (nI n))], [.ref 69])) (h' := zH v w t) rfl ?_
  refine zk_T.cl (v := none) (h' := zH (zb v 68 (upd (upd (v 68) 0 0) 11 0)) w t) rfl (zs_manew (v := v) (w := w)) ?_
  show zk_T zk_mt zk_ex Ls xs zm_265 (4, [(0, .ref 69), (1, .int (nI n))], []) (zH (zb v 68 (upd (upd (v 68) 0 0) 11 0)) w t) _
  refine zk_T.adv 3 (f' := (9, [(0, .ref 69), (1, .int (nI n))], [.int (v 68 14), .ref 69])) (h' := zH (zb v 68 (upd (upd (v 68) 0 0) 11 0)) w t) rfl ?_
  rw [show (v 68 14) = 1 from hst]
  refine zk_T.adv 1 (f' := (10, [(0, .ref 69), (1, .int (nI n))], [.int (nI n), .int 1, .ref 69])) (h' := zH (zb v 68 (upd (upd (v 68) 0 0) 11 0)) w t) rfl ?_
  refine zk_T.cl (v := some (.int 0)) (h' := zH (zb v 68 (upd (upd (v 68) 0 0) 11 0)) w t) rfl (by have ee_ : zk_Cr zk_mt zk_ex Ls xs 108 [.ref 69, .int 1, .int (nI n)] (zH (zb v 68 (upd (upd (v 68) 0 0) 11 0)) w t) (some (.int (zr_maheadWhy 1 (nI n))), zH (zb v 68 (upd (upd (v 68) 0 0) 11 0)) w t) := zs_maheadWhy (v := (zb v 68 (upd (upd (v 68) 0 0) 11 0))) (w := w) 1 (nI n); rw [show (zr_maheadWhy 1 (nI n)) = 0 from (zk_ah1 n hn)] at ee_; exact ee_) ?_
  show zk_T zk_mt zk_ex Ls xs zm_265 (13, [(0, .ref 69), (1, .int (nI n))], [.int 0]) (zH (zb v 68 (upd (upd (v 68) 0 0) 11 0)) w t) _
  refine zk_T.adv 2 (f' := (15, [(0, .ref 69), (1, .int (nI n)), (2, .int 0)], [.int 0])) (h' := zH (zb v 68 (upd (upd (v 68) 0 0) 11 0)) w t) rfl ?_
  refine zk_T.br (f1 := (24, [(0, .ref 69), (1, .int (nI n)), (2, .int 0)], [])) (f2 := (18, [(0, .ref 69), (1, .int (nI n)), (2, .int 0)], [])) rfl (fun c1 => ?_) (fun c1 => absurd (by decide) (of_decide_eq_false c1))
  refine zk_T.adv 2 (f' := (26, [(0, .ref 69), (1, .int (nI n)), (2, .int 0)], [.int (nI n), .ref 69])) (h' := zH (zb v 68 (upd (upd (v 68) 0 0) 11 0)) w t) rfl ?_
  refine zk_T.cl (v := none) (h' := zH (zb (zb (zb (zb (zb (zb v 68 (upd (upd (upd (v 68) 0 0) 11 0) 26 ((zr_myears n D Gn (v 71) (v 75) (v 76) (v 80) (v 81) (v 82) (v 79)).2.1))) 76 ((zr_myears n D Gn (v 71) (v 75) (v 76) (v 80) (v 81) (v 82) (v 79)).1)) 79 ((zr_myears n D Gn (v 71) (v 75) (v 76) (v 80) (v 81) (v 82) (v 79)).2.2.2.2.2)) 80 ((zr_myears n D Gn (v 71) (v 75) (v 76) (v 80) (v 81) (v 82) (v 79)).2.2.1)) 81 ((zr_myears n D Gn (v 71) (v 75) (v 76) (v 80) (v 81) (v 82) (v 79)).2.2.2.1)) 82 ((zr_myears n D Gn (v 71) (v 75) (v 76) (v 80) (v 81) (v 82) (v 79)).2.2.2.2.1)) w t) rfl (zs_myearsOn (v := (zb v 68 (upd (upd (v 68) 0 0) 11 0))) (w := w) n (by omega) D hD h8 Gn hG h4 hev hli) ?_
  show zk_T zk_mt zk_ex Ls xs zm_265 (29, [(0, .ref 69), (1, .int (nI n)), (2, .int 0)], []) (zH (zb (zb (zb (zb (zb (zb v 68 (upd (upd (upd (v 68) 0 0) 11 0) 26 ((zr_myears n D Gn (v 71) (v 75) (v 76) (v 80) (v 81) (v 82) (v 79)).2.1))) 76 ((zr_myears n D Gn (v 71) (v 75) (v 76) (v 80) (v 81) (v 82) (v 79)).1)) 79 ((zr_myears n D Gn (v 71) (v 75) (v 76) (v 80) (v 81) (v 82) (v 79)).2.2.2.2.2)) 80 ((zr_myears n D Gn (v 71) (v 75) (v 76) (v 80) (v 81) (v 82) (v 79)).2.2.1)) 81 ((zr_myears n D Gn (v 71) (v 75) (v 76) (v 80) (v 81) (v 82) (v 79)).2.2.2.1)) 82 ((zr_myears n D Gn (v 71) (v 75) (v 76) (v 80) (v 81) (v 82) (v 79)).2.2.2.2.1)) w t) _
  refine zk_T.adv 3 (f' := (35, [(0, .ref 69), (1, .int (nI n)), (2, .int 0)], [.int 14, .ref 77])) (h' := zH (zb (zb (zb (zb (zb (zb v 68 (upd (upd (upd (v 68) 0 0) 11 0) 26 ((zr_myears n D Gn (v 71) (v 75) (v 76) (v 80) (v 81) (v 82) (v 79)).2.1))) 76 ((zr_myears n D Gn (v 71) (v 75) (v 76) (v 80) (v 81) (v 82) (v 79)).1)) 79 ((zr_myears n D Gn (v 71) (v 75) (v 76) (v 80) (v 81) (v 82) (v 79)).2.2.2.2.2)) 80 ((zr_myears n D Gn (v 71) (v 75) (v 76) (v 80) (v 81) (v 82) (v 79)).2.2.1)) 81 ((zr_myears n D Gn (v 71) (v 75) (v 76) (v 80) (v 81) (v 82) (v 79)).2.2.2.1)) 82 ((zr_myears n D Gn (v 71) (v 75) (v 76) (v 80) (v 81) (v 82) (v 79)).2.2.2.2.1)) w t) rfl ?_
  refine zk_T.ob (f' := (36, [(0, .ref 69), (1, .int (nI n)), (2, .int 0)], [.int (((zr_myears n D Gn (v 71) (v 75) (v 76) (v 80) (v 81) (v 82) (v 79)).1) (14 : Int32).toNatClampNeg)])) (h' := zH (zb (zb (zb (zb (zb (zb v 68 (upd (upd (upd (v 68) 0 0) 11 0) 26 ((zr_myears n D Gn (v 71) (v 75) (v 76) (v 80) (v 81) (v 82) (v 79)).2.1))) 76 ((zr_myears n D Gn (v 71) (v 75) (v 76) (v 80) (v 81) (v 82) (v 79)).1)) 79 ((zr_myears n D Gn (v 71) (v 75) (v 76) (v 80) (v 81) (v 82) (v 79)).2.2.2.2.2)) 80 ((zr_myears n D Gn (v 71) (v 75) (v 76) (v 80) (v 81) (v 82) (v 79)).2.2.1)) 81 ((zr_myears n D Gn (v 71) (v 75) (v 76) (v 80) (v 81) (v 82) (v 79)).2.2.2.1)) 82 ((zr_myears n D Gn (v 71) (v 75) (v 76) (v 80) (v 81) (v 82) (v 79)).2.2.2.2.1)) w t) rfl rfl ?_
  show zk_T zk_mt zk_ex Ls xs zm_265 (36, [(0, .ref 69), (1, .int (nI n)), (2, .int 0)], [.int (((zr_myears n D Gn (v 71) (v 75) (v 76) (v 80) (v 81) (v 82) (v 79)).1) 14)]) (zH (zb (zb (zb (zb (zb (zb v 68 (upd (upd (upd (v 68) 0 0) 11 0) 26 ((zr_myears n D Gn (v 71) (v 75) (v 76) (v 80) (v 81) (v 82) (v 79)).2.1))) 76 ((zr_myears n D Gn (v 71) (v 75) (v 76) (v 80) (v 81) (v 82) (v 79)).1)) 79 ((zr_myears n D Gn (v 71) (v 75) (v 76) (v 80) (v 81) (v 82) (v 79)).2.2.2.2.2)) 80 ((zr_myears n D Gn (v 71) (v 75) (v 76) (v 80) (v 81) (v 82) (v 79)).2.2.1)) 81 ((zr_myears n D Gn (v 71) (v 75) (v 76) (v 80) (v 81) (v 82) (v 79)).2.2.2.1)) 82 ((zr_myears n D Gn (v 71) (v 75) (v 76) (v 80) (v 81) (v 82) (v 79)).2.2.2.2.1)) w t) _
  exact zk_T.rt rfl rfl (by rfl)
/-- BasketKeepModel.keptOut -/
theorem zM_keptOut_f (hst : v 68 14 = 1) (n : Nat) (hn : n ≤ 60) (D : Nat) (hD : v 71 1 = nI D) (h8 : D ≤ 8) (Gn : Nat) (hG : v 71 3 = nI Gn) (h4 : Gn ≤ 4) (hev : ∀ d, d < D → ¬ v 71 (7 + 2 * d) = 0) (hli : zk_lie Gn (v 75)) : zk_Cr zk_mt zk_ex Ls xs 261 [.ref 69, .int (nI n)] (zH v w t) (some (.int ((zr_myears n D Gn (v 71) (v 75) (v 76) (v 80) (v 81) (v 82) (v 79)).2.1)), zH (zb (zb (zb (zb (zb (zb v 68 (upd (upd (upd (v 68) 0 0) 11 0) 26 ((zr_myears n D Gn (v 71) (v 75) (v 76) (v 80) (v 81) (v 82) (v 79)).2.1))) 76 ((zr_myears n D Gn (v 71) (v 75) (v 76) (v 80) (v 81) (v 82) (v 79)).1)) 79 ((zr_myears n D Gn (v 71) (v 75) (v 76) (v 80) (v 81) (v 82) (v 79)).2.2.2.2.2)) 80 ((zr_myears n D Gn (v 71) (v 75) (v 76) (v 80) (v 81) (v 82) (v 79)).2.2.1)) 81 ((zr_myears n D Gn (v 71) (v 75) (v 76) (v 80) (v 81) (v 82) (v 79)).2.2.2.1)) 82 ((zr_myears n D Gn (v 71) (v 75) (v 76) (v 80) (v 81) (v 82) (v 79)).2.2.2.2.1)) w t) := by
  refine zk_Cr.of (K := zm_261) rfl rfl rfl ?_
  show zk_T zk_mt zk_ex Ls xs zm_261 (0, [(0, .ref 69), (1, .int (nI n))], []) (zH v w t) _
  refine zk_T.adv 1 (f' := (1, [(0, .ref 69), (1, .int (nI n))], [.ref 69])) (h' := zH v w t) rfl ?_
  refine zk_T.cl (v := none) (h' := zH (zb v 68 (upd (upd (v 68) 0 0) 11 0)) w t) rfl (zs_manew (v := v) (w := w)) ?_
  show zk_T zk_mt zk_ex Ls xs zm_261 (4, [(0, .ref 69), (1, .int (nI n))], []) (zH (zb v 68 (upd (upd (v 68) 0 0) 11 0)) w t) _
  refine zk_T.adv 3 (f' := (9, [(0, .ref 69), (1, .int (nI n))], [.int (v 68 14), .ref 69])) (h' := zH (zb v 68 (upd (upd (v 68) 0 0) 11 0)) w t) rfl ?_
  rw [show (v 68 14) = 1 from hst]
  refine zk_T.adv 1 (f' := (10, [(0, .ref 69), (1, .int (nI n))], [.int (nI n), .int 1, .ref 69])) (h' := zH (zb v 68 (upd (upd (v 68) 0 0) 11 0)) w t) rfl ?_
  refine zk_T.cl (v := some (.int 0)) (h' := zH (zb v 68 (upd (upd (v 68) 0 0) 11 0)) w t) rfl (by have ee_ : zk_Cr zk_mt zk_ex Ls xs 108 [.ref 69, .int 1, .int (nI n)] (zH (zb v 68 (upd (upd (v 68) 0 0) 11 0)) w t) (some (.int (zr_maheadWhy 1 (nI n))), zH (zb v 68 (upd (upd (v 68) 0 0) 11 0)) w t) := zs_maheadWhy (v := (zb v 68 (upd (upd (v 68) 0 0) 11 0))) (w := w) 1 (nI n); rw [show (zr_maheadWhy 1 (nI n)) = 0 from (zk_ah1 n hn)] at ee_; exact ee_) ?_
  show zk_T zk_mt zk_ex Ls xs zm_261 (13, [(0, .ref 69), (1, .int (nI n))], [.int 0]) (zH (zb v 68 (upd (upd (v 68) 0 0) 11 0)) w t) _
  refine zk_T.adv 2 (f' := (15, [(0, .ref 69), (1, .int (nI n)), (2, .int 0)], [.int 0])) (h' := zH (zb v 68 (upd (upd (v 68) 0 0) 11 0)) w t) rfl ?_
  refine zk_T.br (f1 := (24, [(0, .ref 69), (1, .int (nI n)), (2, .int 0)], [])) (f2 := (18, [(0, .ref 69), (1, .int (nI n)), (2, .int 0)], [])) rfl (fun c1 => ?_) (fun c1 => absurd (by decide) (of_decide_eq_false c1))
  refine zk_T.adv 2 (f' := (26, [(0, .ref 69), (1, .int (nI n)), (2, .int 0)], [.int (nI n), .ref 69])) (h' := zH (zb v 68 (upd (upd (v 68) 0 0) 11 0)) w t) rfl ?_
  refine zk_T.cl (v := none) (h' := zH (zb (zb (zb (zb (zb (zb v 68 (upd (upd (upd (v 68) 0 0) 11 0) 26 ((zr_myears n D Gn (v 71) (v 75) (v 76) (v 80) (v 81) (v 82) (v 79)).2.1))) 76 ((zr_myears n D Gn (v 71) (v 75) (v 76) (v 80) (v 81) (v 82) (v 79)).1)) 79 ((zr_myears n D Gn (v 71) (v 75) (v 76) (v 80) (v 81) (v 82) (v 79)).2.2.2.2.2)) 80 ((zr_myears n D Gn (v 71) (v 75) (v 76) (v 80) (v 81) (v 82) (v 79)).2.2.1)) 81 ((zr_myears n D Gn (v 71) (v 75) (v 76) (v 80) (v 81) (v 82) (v 79)).2.2.2.1)) 82 ((zr_myears n D Gn (v 71) (v 75) (v 76) (v 80) (v 81) (v 82) (v 79)).2.2.2.2.1)) w t) rfl (zs_myearsOn (v := (zb v 68 (upd (upd (v 68) 0 0) 11 0))) (w := w) n (by omega) D hD h8 Gn hG h4 hev hli) ?_
  show zk_T zk_mt zk_ex Ls xs zm_261 (29, [(0, .ref 69), (1, .int (nI n)), (2, .int 0)], []) (zH (zb (zb (zb (zb (zb (zb v 68 (upd (upd (upd (v 68) 0 0) 11 0) 26 ((zr_myears n D Gn (v 71) (v 75) (v 76) (v 80) (v 81) (v 82) (v 79)).2.1))) 76 ((zr_myears n D Gn (v 71) (v 75) (v 76) (v 80) (v 81) (v 82) (v 79)).1)) 79 ((zr_myears n D Gn (v 71) (v 75) (v 76) (v 80) (v 81) (v 82) (v 79)).2.2.2.2.2)) 80 ((zr_myears n D Gn (v 71) (v 75) (v 76) (v 80) (v 81) (v 82) (v 79)).2.2.1)) 81 ((zr_myears n D Gn (v 71) (v 75) (v 76) (v 80) (v 81) (v 82) (v 79)).2.2.2.1)) 82 ((zr_myears n D Gn (v 71) (v 75) (v 76) (v 80) (v 81) (v 82) (v 79)).2.2.2.2.1)) w t) _
  refine zk_T.adv 2 (f' := (33, [(0, .ref 69), (1, .int (nI n)), (2, .int 0)], [.int ((zr_myears n D Gn (v 71) (v 75) (v 76) (v 80) (v 81) (v 82) (v 79)).2.1)])) (h' := zH (zb (zb (zb (zb (zb (zb v 68 (upd (upd (upd (v 68) 0 0) 11 0) 26 ((zr_myears n D Gn (v 71) (v 75) (v 76) (v 80) (v 81) (v 82) (v 79)).2.1))) 76 ((zr_myears n D Gn (v 71) (v 75) (v 76) (v 80) (v 81) (v 82) (v 79)).1)) 79 ((zr_myears n D Gn (v 71) (v 75) (v 76) (v 80) (v 81) (v 82) (v 79)).2.2.2.2.2)) 80 ((zr_myears n D Gn (v 71) (v 75) (v 76) (v 80) (v 81) (v 82) (v 79)).2.2.1)) 81 ((zr_myears n D Gn (v 71) (v 75) (v 76) (v 80) (v 81) (v 82) (v 79)).2.2.2.1)) 82 ((zr_myears n D Gn (v 71) (v 75) (v 76) (v 80) (v 81) (v 82) (v 79)).2.2.2.2.1)) w t) rfl ?_
  exact zk_T.rt rfl rfl (by rfl)
def zl_mbusyG (oo : Nat → Int32) (j : Nat) (s : Nat) : Nat := match s with
  | b => if (oo j) ≤ (oo b) then b else j
theorem zl_mbusy (Mn : Nat) (hM : v 71 2 = nI Mn) (h5 : Mn ≤ 5) : ∀ (s : Nat) (q : Option Value × zk_H), s < 5 → zk_T zk_mt zk_ex Ls xs zm_257 ((fun (s : Nat) => ((70, [(0, .ref 69), (3, .int (nI s)), (4, .int (nI (1 + (Mn - 1))))], []) : zk_F)) (zf (zl_mbusyG (v 82)) (Mn - 1) 1 s)) ((fun (s : Nat) => zH v w t) (zf (zl_mbusyG (v 82)) (Mn - 1) 1 s)) q → zk_T zk_mt zk_ex Ls xs zm_257 (34, [(0, .ref 69), (3, .int (nI s)), (4, .int (nI 1))], []) (zH v w t) q := by
  intro s q hP0 hk
  refine zk_forK (M := zm_257) (fun j (s : Nat) => (34, [(0, .ref 69), (3, .int (nI s)), (4, .int (nI j))], [])) (fun _ (s : Nat) => zH v w t) (zl_mbusyG (v 82)) (fun j (s : Nat) => s < 5) (fun (s : Nat) => (70, [(0, .ref 69), (3, .int (nI s)), (4, .int (nI (1 + (Mn - 1))))], [])) (fun (s : Nat) => zH v w t) ((Mn - 1)) 1 s (fun j b hj1 hj2 hp => by simp only [zl_mbusyG]; have hp : b < 5 := hp; split <;> omega) (fun j s hj1 hj2 hp q hk => ?_) (fun s hp q hk => ?_) ?_ q hk
  · have hz := True.intro
    obtain ⟨b, rfl⟩ : ∃ z, z = s := ⟨_, rfl⟩
    show zk_T zk_mt zk_ex Ls xs zm_257 (34, [(0, .ref 69), (3, .int (nI b)), (4, .int (nI j))], []) (zH v w t) q
    have hp : b < 5 := hp
    refine zk_T.adv 4 (f' := (41, [(0, .ref 69), (3, .int (nI b)), (4, .int (nI j))], [.int 2, .ref 72, .int (nI j)])) (h' := zH v w t) rfl ?_
    refine zk_T.ob (f' := (42, [(0, .ref 69), (3, .int (nI b)), (4, .int (nI j))], [.int (v 71 (2 : Int32).toNatClampNeg), .int (nI j)])) (h' := zH v w t) rfl rfl ?_
    show zk_T zk_mt zk_ex Ls xs zm_257 (42, [(0, .ref 69), (3, .int (nI b)), (4, .int (nI j))], [.int (v 71 2), .int (nI j)]) (zH v w t) _
    refine zk_T.br (f1 := (70, [(0, .ref 69), (3, .int (nI b)), (4, .int (nI j))], [])) (f2 := (45, [(0, .ref 69), (3, .int (nI b)), (4, .int (nI j))], [])) rfl (fun c1 => absurd (of_decide_eq_true c1) (by rw [show _ = nI Mn from hM]; exact nI_ge (show j < Mn by omega) (by omega))) (fun c1 => ?_)
    refine zk_T.adv 3 (f' := (51, [(0, .ref 69), (3, .int (nI b)), (4, .int (nI j))], [.int (nI j), .ref 83])) (h' := zH v w t) rfl ?_
    refine zk_T.ob (f' := (52, [(0, .ref 69), (3, .int (nI b)), (4, .int (nI j))], [.int (v 82 (nI j).toNatClampNeg)])) (h' := zH v w t) rfl (by first | exact zk_inN (by omega) (by decide) | decide) ?_
    rw [nI_clamp (show j < 2 ^ 31 by omega)]
    refine zk_T.adv 3 (f' := (57, [(0, .ref 69), (3, .int (nI b)), (4, .int (nI j))], [.int (nI b), .ref 83, .int (v 82 j)])) (h' := zH v w t) rfl ?_
    refine zk_T.ob (f' := (58, [(0, .ref 69), (3, .int (nI b)), (4, .int (nI j))], [.int (v 82 (nI b).toNatClampNeg), .int (v 82 j)])) (h' := zH v w t) rfl (by first | exact zk_inN (by omega) (by decide) | decide) ?_
    rw [nI_clamp (show b < 2 ^ 31 by omega)]
    refine zk_T.br (f1 := (64, [(0, .ref 69), (3, .int (nI b)), (4, .int (nI j))], [])) (f2 := (61, [(0, .ref 69), (3, .int (nI b)), (4, .int (nI j))], [])) rfl (fun c2 => ?_) (fun c2 => ?_)
    · have c2 : (v 82 j) ≤ (v 82 b) := of_decide_eq_true c2
      refine zk_T.adv 2 (f' := (34, [(0, .ref 69), (3, .int (nI b)), (4, .int ((nI j) + 1))], [])) (h' := zH v w t) rfl ?_
      rw [nI_1]
      simp only [zl_mbusyG, if_pos c2] at hk
      exact hk
    · have c2 : ¬ ((v 82 j) ≤ (v 82 b)) := of_decide_eq_false c2
      refine zk_T.adv 4 (f' := (34, [(0, .ref 69), (3, .int (nI j)), (4, .int ((nI j) + 1))], [])) (h' := zH v w t) rfl ?_
      rw [nI_1]
      simp only [zl_mbusyG, if_neg c2] at hk
      exact hk
  · have hz := True.intro
    obtain ⟨b, rfl⟩ : ∃ z, z = s := ⟨_, rfl⟩
    show zk_T zk_mt zk_ex Ls xs zm_257 (34, [(0, .ref 69), (3, .int (nI b)), (4, .int (nI (1 + (Mn - 1))))], []) (zH v w t) q
    have hp : b < 5 := hp
    refine zk_T.adv 4 (f' := (41, [(0, .ref 69), (3, .int (nI b)), (4, .int (nI (1 + (Mn - 1))))], [.int 2, .ref 72, .int (nI (1 + (Mn - 1)))])) (h' := zH v w t) rfl ?_
    refine zk_T.ob (f' := (42, [(0, .ref 69), (3, .int (nI b)), (4, .int (nI (1 + (Mn - 1))))], [.int (v 71 (2 : Int32).toNatClampNeg), .int (nI (1 + (Mn - 1)))])) (h' := zH v w t) rfl rfl ?_
    show zk_T zk_mt zk_ex Ls xs zm_257 (42, [(0, .ref 69), (3, .int (nI b)), (4, .int (nI (1 + (Mn - 1))))], [.int (v 71 2), .int (nI (1 + (Mn - 1)))]) (zH v w t) _
    refine zk_T.br (f1 := (70, [(0, .ref 69), (3, .int (nI b)), (4, .int (nI (1 + (Mn - 1))))], [])) (f2 := (45, [(0, .ref 69), (3, .int (nI b)), (4, .int (nI (1 + (Mn - 1))))], [])) rfl (fun c1 => ?_) (fun c1 => absurd (by rw [show _ = nI Mn from hM]; exact nI_le (by omega) (by omega)) (of_decide_eq_false c1))
    exact hk
  · exact hP0
/-- BasketKeepModel.busiest -/
theorem zM_busiest_f (hst : v 68 14 = 1) (n : Nat) (hn : n ≤ 60) (D : Nat) (hD : v 71 1 = nI D) (h8 : D ≤ 8) (Gn : Nat) (hG : v 71 3 = nI Gn) (h4 : Gn ≤ 4) (hev : ∀ d, d < D → ¬ v 71 (7 + 2 * d) = 0) (hli : zk_lie Gn (v 75)) (Mn : Nat) (hM : v 71 2 = nI Mn) (h5 : Mn ≤ 5) : zk_Cr zk_mt zk_ex Ls xs 257 [.ref 69, .int (nI n)] (zH v w t) (some (.int (nI (zf (zl_mbusyG ((zr_myears n D Gn (v 71) (v 75) (v 76) (v 80) (v 81) (v 82) (v 79)).2.2.2.2.1)) (Mn - 1) 1 0))), zH (zb (zb (zb (zb (zb (zb v 68 (upd (upd (upd (v 68) 0 0) 11 0) 26 ((zr_myears n D Gn (v 71) (v 75) (v 76) (v 80) (v 81) (v 82) (v 79)).2.1))) 76 ((zr_myears n D Gn (v 71) (v 75) (v 76) (v 80) (v 81) (v 82) (v 79)).1)) 79 ((zr_myears n D Gn (v 71) (v 75) (v 76) (v 80) (v 81) (v 82) (v 79)).2.2.2.2.2)) 80 ((zr_myears n D Gn (v 71) (v 75) (v 76) (v 80) (v 81) (v 82) (v 79)).2.2.1)) 81 ((zr_myears n D Gn (v 71) (v 75) (v 76) (v 80) (v 81) (v 82) (v 79)).2.2.2.1)) 82 ((zr_myears n D Gn (v 71) (v 75) (v 76) (v 80) (v 81) (v 82) (v 79)).2.2.2.2.1)) w t) := by
  refine zk_Cr.of (K := zm_257) rfl rfl rfl ?_
  show zk_T zk_mt zk_ex Ls xs zm_257 (0, [(0, .ref 69), (1, .int (nI n))], []) (zH v w t) _
  refine zk_T.adv 1 (f' := (1, [(0, .ref 69), (1, .int (nI n))], [.ref 69])) (h' := zH v w t) rfl ?_
  refine zk_T.cl (v := none) (h' := zH (zb v 68 (upd (upd (v 68) 0 0) 11 0)) w t) rfl (zs_manew (v := v) (w := w)) ?_
  show zk_T zk_mt zk_ex Ls xs zm_257 (4, [(0, .ref 69), (1, .int (nI n))], []) (zH (zb v 68 (upd (upd (v 68) 0 0) 11 0)) w t) _
  refine zk_T.adv 3 (f' := (9, [(0, .ref 69), (1, .int (nI n))], [.int (v 68 14), .ref 69])) (h' := zH (zb v 68 (upd (upd (v 68) 0 0) 11 0)) w t) rfl ?_
  rw [show (v 68 14) = 1 from hst]
  refine zk_T.adv 1 (f' := (10, [(0, .ref 69), (1, .int (nI n))], [.int (nI n), .int 1, .ref 69])) (h' := zH (zb v 68 (upd (upd (v 68) 0 0) 11 0)) w t) rfl ?_
  refine zk_T.cl (v := some (.int 0)) (h' := zH (zb v 68 (upd (upd (v 68) 0 0) 11 0)) w t) rfl (by have ee_ : zk_Cr zk_mt zk_ex Ls xs 108 [.ref 69, .int 1, .int (nI n)] (zH (zb v 68 (upd (upd (v 68) 0 0) 11 0)) w t) (some (.int (zr_maheadWhy 1 (nI n))), zH (zb v 68 (upd (upd (v 68) 0 0) 11 0)) w t) := zs_maheadWhy (v := (zb v 68 (upd (upd (v 68) 0 0) 11 0))) (w := w) 1 (nI n); rw [show (zr_maheadWhy 1 (nI n)) = 0 from (zk_ah1 n hn)] at ee_; exact ee_) ?_
  show zk_T zk_mt zk_ex Ls xs zm_257 (13, [(0, .ref 69), (1, .int (nI n))], [.int 0]) (zH (zb v 68 (upd (upd (v 68) 0 0) 11 0)) w t) _
  refine zk_T.adv 2 (f' := (15, [(0, .ref 69), (1, .int (nI n)), (2, .int 0)], [.int 0])) (h' := zH (zb v 68 (upd (upd (v 68) 0 0) 11 0)) w t) rfl ?_
  refine zk_T.br (f1 := (24, [(0, .ref 69), (1, .int (nI n)), (2, .int 0)], [])) (f2 := (18, [(0, .ref 69), (1, .int (nI n)), (2, .int 0)], [])) rfl (fun c1 => ?_) (fun c1 => absurd (by decide) (of_decide_eq_false c1))
  refine zk_T.adv 2 (f' := (26, [(0, .ref 69), (1, .int (nI n)), (2, .int 0)], [.int (nI n), .ref 69])) (h' := zH (zb v 68 (upd (upd (v 68) 0 0) 11 0)) w t) rfl ?_
  refine zk_T.cl (v := none) (h' := zH (zb (zb (zb (zb (zb (zb v 68 (upd (upd (upd (v 68) 0 0) 11 0) 26 ((zr_myears n D Gn (v 71) (v 75) (v 76) (v 80) (v 81) (v 82) (v 79)).2.1))) 76 ((zr_myears n D Gn (v 71) (v 75) (v 76) (v 80) (v 81) (v 82) (v 79)).1)) 79 ((zr_myears n D Gn (v 71) (v 75) (v 76) (v 80) (v 81) (v 82) (v 79)).2.2.2.2.2)) 80 ((zr_myears n D Gn (v 71) (v 75) (v 76) (v 80) (v 81) (v 82) (v 79)).2.2.1)) 81 ((zr_myears n D Gn (v 71) (v 75) (v 76) (v 80) (v 81) (v 82) (v 79)).2.2.2.1)) 82 ((zr_myears n D Gn (v 71) (v 75) (v 76) (v 80) (v 81) (v 82) (v 79)).2.2.2.2.1)) w t) rfl (zs_myearsOn (v := (zb v 68 (upd (upd (v 68) 0 0) 11 0))) (w := w) n (by omega) D hD h8 Gn hG h4 hev hli) ?_
  show zk_T zk_mt zk_ex Ls xs zm_257 (29, [(0, .ref 69), (1, .int (nI n)), (2, .int 0)], []) (zH (zb (zb (zb (zb (zb (zb v 68 (upd (upd (upd (v 68) 0 0) 11 0) 26 ((zr_myears n D Gn (v 71) (v 75) (v 76) (v 80) (v 81) (v 82) (v 79)).2.1))) 76 ((zr_myears n D Gn (v 71) (v 75) (v 76) (v 80) (v 81) (v 82) (v 79)).1)) 79 ((zr_myears n D Gn (v 71) (v 75) (v 76) (v 80) (v 81) (v 82) (v 79)).2.2.2.2.2)) 80 ((zr_myears n D Gn (v 71) (v 75) (v 76) (v 80) (v 81) (v 82) (v 79)).2.2.1)) 81 ((zr_myears n D Gn (v 71) (v 75) (v 76) (v 80) (v 81) (v 82) (v 79)).2.2.2.1)) 82 ((zr_myears n D Gn (v 71) (v 75) (v 76) (v 80) (v 81) (v 82) (v 79)).2.2.2.2.1)) w t) _
  refine zk_T.adv 4 (f' := (34, [(0, .ref 69), (3, .int 0), (4, .int 1)], [])) (h' := zH (zb (zb (zb (zb (zb (zb v 68 (upd (upd (upd (v 68) 0 0) 11 0) 26 ((zr_myears n D Gn (v 71) (v 75) (v 76) (v 80) (v 81) (v 82) (v 79)).2.1))) 76 ((zr_myears n D Gn (v 71) (v 75) (v 76) (v 80) (v 81) (v 82) (v 79)).1)) 79 ((zr_myears n D Gn (v 71) (v 75) (v 76) (v 80) (v 81) (v 82) (v 79)).2.2.2.2.2)) 80 ((zr_myears n D Gn (v 71) (v 75) (v 76) (v 80) (v 81) (v 82) (v 79)).2.2.1)) 81 ((zr_myears n D Gn (v 71) (v 75) (v 76) (v 80) (v 81) (v 82) (v 79)).2.2.2.1)) 82 ((zr_myears n D Gn (v 71) (v 75) (v 76) (v 80) (v 81) (v 82) (v 79)).2.2.2.2.1)) w t) rfl ?_
  refine zl_mbusy (v := (zb (zb (zb (zb (zb (zb v 68 (upd (upd (upd (v 68) 0 0) 11 0) 26 ((zr_myears n D Gn (v 71) (v 75) (v 76) (v 80) (v 81) (v 82) (v 79)).2.1))) 76 ((zr_myears n D Gn (v 71) (v 75) (v 76) (v 80) (v 81) (v 82) (v 79)).1)) 79 ((zr_myears n D Gn (v 71) (v 75) (v 76) (v 80) (v 81) (v 82) (v 79)).2.2.2.2.2)) 80 ((zr_myears n D Gn (v 71) (v 75) (v 76) (v 80) (v 81) (v 82) (v 79)).2.2.1)) 81 ((zr_myears n D Gn (v 71) (v 75) (v 76) (v 80) (v 81) (v 82) (v 79)).2.2.2.1)) 82 ((zr_myears n D Gn (v 71) (v 75) (v 76) (v 80) (v 81) (v 82) (v 79)).2.2.2.2.1))) (w := w) (t := t) Mn hM h5 0 _ (by decide) ?_
  show zk_T zk_mt zk_ex Ls xs zm_257 (70, [(0, .ref 69), (3, .int (nI (zf (zl_mbusyG ((zr_myears n D Gn (v 71) (v 75) (v 76) (v 80) (v 81) (v 82) (v 79)).2.2.2.2.1)) (Mn - 1) 1 0))), (4, .int (nI (1 + (Mn - 1))))], []) (zH (zb (zb (zb (zb (zb (zb v 68 (upd (upd (upd (v 68) 0 0) 11 0) 26 ((zr_myears n D Gn (v 71) (v 75) (v 76) (v 80) (v 81) (v 82) (v 79)).2.1))) 76 ((zr_myears n D Gn (v 71) (v 75) (v 76) (v 80) (v 81) (v 82) (v 79)).1)) 79 ((zr_myears n D Gn (v 71) (v 75) (v 76) (v 80) (v 81) (v 82) (v 79)).2.2.2.2.2)) 80 ((zr_myears n D Gn (v 71) (v 75) (v 76) (v 80) (v 81) (v 82) (v 79)).2.2.1)) 81 ((zr_myears n D Gn (v 71) (v 75) (v 76) (v 80) (v 81) (v 82) (v 79)).2.2.2.1)) 82 ((zr_myears n D Gn (v 71) (v 75) (v 76) (v 80) (v 81) (v 82) (v 79)).2.2.2.2.1)) w t) _
  refine zk_T.adv 1 (f' := (71, [(0, .ref 69), (3, .int (nI (zf (zl_mbusyG ((zr_myears n D Gn (v 71) (v 75) (v 76) (v 80) (v 81) (v 82) (v 79)).2.2.2.2.1)) (Mn - 1) 1 0))), (4, .int (nI (1 + (Mn - 1))))], [.int (nI (zf (zl_mbusyG ((zr_myears n D Gn (v 71) (v 75) (v 76) (v 80) (v 81) (v 82) (v 79)).2.2.2.2.1)) (Mn - 1) 1 0))])) (h' := zH (zb (zb (zb (zb (zb (zb v 68 (upd (upd (upd (v 68) 0 0) 11 0) 26 ((zr_myears n D Gn (v 71) (v 75) (v 76) (v 80) (v 81) (v 82) (v 79)).2.1))) 76 ((zr_myears n D Gn (v 71) (v 75) (v 76) (v 80) (v 81) (v 82) (v 79)).1)) 79 ((zr_myears n D Gn (v 71) (v 75) (v 76) (v 80) (v 81) (v 82) (v 79)).2.2.2.2.2)) 80 ((zr_myears n D Gn (v 71) (v 75) (v 76) (v 80) (v 81) (v 82) (v 79)).2.2.1)) 81 ((zr_myears n D Gn (v 71) (v 75) (v 76) (v 80) (v 81) (v 82) (v 79)).2.2.2.1)) 82 ((zr_myears n D Gn (v 71) (v 75) (v 76) (v 80) (v 81) (v 82) (v 79)).2.2.2.2.1)) w t) rfl ?_
  exact zk_T.rt rfl rfl (by rfl)
def zk_bst (c : Nat) (b : Int32) : Prop := b = -2 ∨ ∃ x, x < c ∧ b = nI x
def zl_mworstG (lt : Nat → Int32) (j : Nat) (s : Int32) : Int32 := match s with
  | b => if 0 ≤ b then if (lt j) ≤ (lt b.toNatClampNeg) then b else nI j else (if (lt j) ≤ 0 then b else nI j)
theorem zl_mworst (D : Nat) (hD : v 71 1 = nI D) (h8 : D ≤ 8) : ∀ (s : Int32) (q : Option Value × zk_H), zk_bst 8 s → zk_T zk_mt zk_ex Ls xs zm_273 ((fun (s : Int32) => ((79, [(0, .ref 69), (3, .int s), (4, .int (nI (0 + D)))], []) : zk_F)) (zf (zl_mworstG (v 80)) D 0 s)) ((fun (s : Int32) => zH v w t) (zf (zl_mworstG (v 80)) D 0 s)) q → zk_T zk_mt zk_ex Ls xs zm_273 (35, [(0, .ref 69), (3, .int s), (4, .int (nI 0))], []) (zH v w t) q := by
  intro s q hP0 hk
  refine zk_forK (M := zm_273) (fun j (s : Int32) => (35, [(0, .ref 69), (3, .int s), (4, .int (nI j))], [])) (fun _ (s : Int32) => zH v w t) (zl_mworstG (v 80)) (fun j (s : Int32) => zk_bst 8 s) (fun (s : Int32) => (79, [(0, .ref 69), (3, .int s), (4, .int (nI (0 + D)))], [])) (fun (s : Int32) => zH v w t) (D) 0 s (fun j b hj1 hj2 hp => by simp only [zl_mworstG]; have hp : zk_bst 8 b := hp; (repeat' split) <;> first | exact hp | exact Or.inr ⟨j, by omega, rfl⟩) (fun j s hj1 hj2 hp q hk => ?_) (fun s hp q hk => ?_) ?_ q hk
  · have hz := True.intro
    obtain ⟨b, rfl⟩ : ∃ z, z = s := ⟨_, rfl⟩
    show zk_T zk_mt zk_ex Ls xs zm_273 (35, [(0, .ref 69), (3, .int b), (4, .int (nI j))], []) (zH v w t) q
    have hp : zk_bst 8 b := hp
    refine zk_T.adv 4 (f' := (42, [(0, .ref 69), (3, .int b), (4, .int (nI j))], [.int 1, .ref 72, .int (nI j)])) (h' := zH v w t) rfl ?_
    refine zk_T.ob (f' := (43, [(0, .ref 69), (3, .int b), (4, .int (nI j))], [.int (v 71 (1 : Int32).toNatClampNeg), .int (nI j)])) (h' := zH v w t) rfl rfl ?_
    show zk_T zk_mt zk_ex Ls xs zm_273 (43, [(0, .ref 69), (3, .int b), (4, .int (nI j))], [.int (v 71 1), .int (nI j)]) (zH v w t) _
    refine zk_T.br (f1 := (79, [(0, .ref 69), (3, .int b), (4, .int (nI j))], [])) (f2 := (46, [(0, .ref 69), (3, .int b), (4, .int (nI j))], [])) rfl (fun c1 => absurd (of_decide_eq_true c1) (by rw [show _ = nI D from hD]; exact nI_ge (show j < D by omega) (by omega))) (fun c1 => ?_)
    refine zk_T.adv 3 (f' := (52, [(0, .ref 69), (3, .int b), (4, .int (nI j))], [.int (nI j), .ref 81])) (h' := zH v w t) rfl ?_
    refine zk_T.ob (f' := (53, [(0, .ref 69), (3, .int b), (4, .int (nI j))], [.int (v 80 (nI j).toNatClampNeg)])) (h' := zH v w t) rfl (by first | exact zk_inN (by omega) (by decide) | decide) ?_
    rw [nI_clamp (show j < 2 ^ 31 by omega)]
    refine zk_T.adv 1 (f' := (54, [(0, .ref 69), (3, .int b), (4, .int (nI j))], [.int b, .int (v 80 j)])) (h' := zH v w t) rfl ?_
    refine zk_T.br (f1 := (61, [(0, .ref 69), (3, .int b), (4, .int (nI j))], [.int (v 80 j)])) (f2 := (57, [(0, .ref 69), (3, .int b), (4, .int (nI j))], [.int (v 80 j)])) rfl (fun c2 => ?_) (fun c2 => ?_)
    · have c2 : 0 ≤ b := of_decide_eq_true c2
      refine zk_T.adv 3 (f' := (66, [(0, .ref 69), (3, .int b), (4, .int (nI j))], [.int b, .ref 81, .int (v 80 j)])) (h' := zH v w t) rfl ?_
      refine zk_T.ob (f' := (67, [(0, .ref 69), (3, .int b), (4, .int (nI j))], [.int (v 80 b.toNatClampNeg), .int (v 80 j)])) (h' := zH v w t) rfl (by rcases hp with hp | ⟨x, hx, hp⟩ <;> first | (rw [hp] at c2; exact absurd c2 (by decide)) | (rw [hp]; exact zk_inN (by omega) (by decide))) ?_
      refine zk_T.br (f1 := (73, [(0, .ref 69), (3, .int b), (4, .int (nI j))], [])) (f2 := (70, [(0, .ref 69), (3, .int b), (4, .int (nI j))], [])) rfl (fun c3 => ?_) (fun c3 => ?_)
      · have c3 : (v 80 j) ≤ (v 80 b.toNatClampNeg) := of_decide_eq_true c3
        refine zk_T.adv 2 (f' := (35, [(0, .ref 69), (3, .int b), (4, .int ((nI j) + 1))], [])) (h' := zH v w t) rfl ?_
        rw [nI_1]
        simp only [zl_mworstG, if_pos c2, if_pos c3] at hk
        exact hk
      · have c3 : ¬ ((v 80 j) ≤ (v 80 b.toNatClampNeg)) := of_decide_eq_false c3
        refine zk_T.adv 4 (f' := (35, [(0, .ref 69), (3, .int (nI j)), (4, .int ((nI j) + 1))], [])) (h' := zH v w t) rfl ?_
        rw [nI_1]
        simp only [zl_mworstG, if_pos c2, if_neg c3] at hk
        exact hk
    · have c2 : ¬ (0 ≤ b) := of_decide_eq_false c2
      refine zk_T.adv 2 (f' := (67, [(0, .ref 69), (3, .int b), (4, .int (nI j))], [.int 0, .int (v 80 j)])) (h' := zH v w t) rfl ?_
      refine zk_T.br (f1 := (73, [(0, .ref 69), (3, .int b), (4, .int (nI j))], [])) (f2 := (70, [(0, .ref 69), (3, .int b), (4, .int (nI j))], [])) rfl (fun c4 => ?_) (fun c4 => ?_)
      · have c4 : (v 80 j) ≤ 0 := of_decide_eq_true c4
        refine zk_T.adv 2 (f' := (35, [(0, .ref 69), (3, .int b), (4, .int ((nI j) + 1))], [])) (h' := zH v w t) rfl ?_
        rw [nI_1]
        simp only [zl_mworstG, if_neg c2, if_pos c4] at hk
        exact hk
      · have c4 : ¬ ((v 80 j) ≤ 0) := of_decide_eq_false c4
        refine zk_T.adv 4 (f' := (35, [(0, .ref 69), (3, .int (nI j)), (4, .int ((nI j) + 1))], [])) (h' := zH v w t) rfl ?_
        rw [nI_1]
        simp only [zl_mworstG, if_neg c2, if_neg c4] at hk
        exact hk
  · have hz := True.intro
    obtain ⟨b, rfl⟩ : ∃ z, z = s := ⟨_, rfl⟩
    show zk_T zk_mt zk_ex Ls xs zm_273 (35, [(0, .ref 69), (3, .int b), (4, .int (nI (0 + D)))], []) (zH v w t) q
    have hp : zk_bst 8 b := hp
    refine zk_T.adv 4 (f' := (42, [(0, .ref 69), (3, .int b), (4, .int (nI (0 + D)))], [.int 1, .ref 72, .int (nI (0 + D))])) (h' := zH v w t) rfl ?_
    refine zk_T.ob (f' := (43, [(0, .ref 69), (3, .int b), (4, .int (nI (0 + D)))], [.int (v 71 (1 : Int32).toNatClampNeg), .int (nI (0 + D))])) (h' := zH v w t) rfl rfl ?_
    show zk_T zk_mt zk_ex Ls xs zm_273 (43, [(0, .ref 69), (3, .int b), (4, .int (nI (0 + D)))], [.int (v 71 1), .int (nI (0 + D))]) (zH v w t) _
    refine zk_T.br (f1 := (79, [(0, .ref 69), (3, .int b), (4, .int (nI (0 + D)))], [])) (f2 := (46, [(0, .ref 69), (3, .int b), (4, .int (nI (0 + D)))], [])) rfl (fun c1 => ?_) (fun c1 => absurd (by rw [show _ = nI D from hD, Nat.zero_add]; exact nI_le (Nat.le_refl _) (by omega)) (of_decide_eq_false c1))
    exact hk
  · exact hP0
/-- BasketKeepModel.worst -/
theorem zM_worst_f (hst : v 68 14 = 1) (n : Nat) (hn : n ≤ 60) (D : Nat) (hD : v 71 1 = nI D) (h8 : D ≤ 8) (Gn : Nat) (hG : v 71 3 = nI Gn) (h4 : Gn ≤ 4) (hev : ∀ d, d < D → ¬ v 71 (7 + 2 * d) = 0) (hli : zk_lie Gn (v 75)) : zk_Cr zk_mt zk_ex Ls xs 273 [.ref 69, .int (nI n)] (zH v w t) (some (.int (zf (zl_mworstG ((zr_myears n D Gn (v 71) (v 75) (v 76) (v 80) (v 81) (v 82) (v 79)).2.2.1)) D 0 (-2))), zH (zb (zb (zb (zb (zb (zb v 68 (upd (upd (upd (v 68) 0 0) 11 0) 26 ((zr_myears n D Gn (v 71) (v 75) (v 76) (v 80) (v 81) (v 82) (v 79)).2.1))) 76 ((zr_myears n D Gn (v 71) (v 75) (v 76) (v 80) (v 81) (v 82) (v 79)).1)) 79 ((zr_myears n D Gn (v 71) (v 75) (v 76) (v 80) (v 81) (v 82) (v 79)).2.2.2.2.2)) 80 ((zr_myears n D Gn (v 71) (v 75) (v 76) (v 80) (v 81) (v 82) (v 79)).2.2.1)) 81 ((zr_myears n D Gn (v 71) (v 75) (v 76) (v 80) (v 81) (v 82) (v 79)).2.2.2.1)) 82 ((zr_myears n D Gn (v 71) (v 75) (v 76) (v 80) (v 81) (v 82) (v 79)).2.2.2.2.1)) w t) := by
  refine zk_Cr.of (K := zm_273) rfl rfl rfl ?_
  show zk_T zk_mt zk_ex Ls xs zm_273 (0, [(0, .ref 69), (1, .int (nI n))], []) (zH v w t) _
  refine zk_T.adv 1 (f' := (1, [(0, .ref 69), (1, .int (nI n))], [.ref 69])) (h' := zH v w t) rfl ?_
  refine zk_T.cl (v := none) (h' := zH (zb v 68 (upd (upd (v 68) 0 0) 11 0)) w t) rfl (zs_manew (v := v) (w := w)) ?_
  show zk_T zk_mt zk_ex Ls xs zm_273 (4, [(0, .ref 69), (1, .int (nI n))], []) (zH (zb v 68 (upd (upd (v 68) 0 0) 11 0)) w t) _
  refine zk_T.adv 3 (f' := (9, [(0, .ref 69), (1, .int (nI n))], [.int (v 68 14), .ref 69])) (h' := zH (zb v 68 (upd (upd (v 68) 0 0) 11 0)) w t) rfl ?_
  rw [show (v 68 14) = 1 from hst]
  refine zk_T.adv 1 (f' := (10, [(0, .ref 69), (1, .int (nI n))], [.int (nI n), .int 1, .ref 69])) (h' := zH (zb v 68 (upd (upd (v 68) 0 0) 11 0)) w t) rfl ?_
  refine zk_T.cl (v := some (.int 0)) (h' := zH (zb v 68 (upd (upd (v 68) 0 0) 11 0)) w t) rfl (by have ee_ : zk_Cr zk_mt zk_ex Ls xs 108 [.ref 69, .int 1, .int (nI n)] (zH (zb v 68 (upd (upd (v 68) 0 0) 11 0)) w t) (some (.int (zr_maheadWhy 1 (nI n))), zH (zb v 68 (upd (upd (v 68) 0 0) 11 0)) w t) := zs_maheadWhy (v := (zb v 68 (upd (upd (v 68) 0 0) 11 0))) (w := w) 1 (nI n); rw [show (zr_maheadWhy 1 (nI n)) = 0 from (zk_ah1 n hn)] at ee_; exact ee_) ?_
  show zk_T zk_mt zk_ex Ls xs zm_273 (13, [(0, .ref 69), (1, .int (nI n))], [.int 0]) (zH (zb v 68 (upd (upd (v 68) 0 0) 11 0)) w t) _
  refine zk_T.adv 2 (f' := (15, [(0, .ref 69), (1, .int (nI n)), (2, .int 0)], [.int 0])) (h' := zH (zb v 68 (upd (upd (v 68) 0 0) 11 0)) w t) rfl ?_
  refine zk_T.br (f1 := (24, [(0, .ref 69), (1, .int (nI n)), (2, .int 0)], [])) (f2 := (18, [(0, .ref 69), (1, .int (nI n)), (2, .int 0)], [])) rfl (fun c1 => ?_) (fun c1 => absurd (by decide) (of_decide_eq_false c1))
  refine zk_T.adv 2 (f' := (26, [(0, .ref 69), (1, .int (nI n)), (2, .int 0)], [.int (nI n), .ref 69])) (h' := zH (zb v 68 (upd (upd (v 68) 0 0) 11 0)) w t) rfl ?_
  refine zk_T.cl (v := none) (h' := zH (zb (zb (zb (zb (zb (zb v 68 (upd (upd (upd (v 68) 0 0) 11 0) 26 ((zr_myears n D Gn (v 71) (v 75) (v 76) (v 80) (v 81) (v 82) (v 79)).2.1))) 76 ((zr_myears n D Gn (v 71) (v 75) (v 76) (v 80) (v 81) (v 82) (v 79)).1)) 79 ((zr_myears n D Gn (v 71) (v 75) (v 76) (v 80) (v 81) (v 82) (v 79)).2.2.2.2.2)) 80 ((zr_myears n D Gn (v 71) (v 75) (v 76) (v 80) (v 81) (v 82) (v 79)).2.2.1)) 81 ((zr_myears n D Gn (v 71) (v 75) (v 76) (v 80) (v 81) (v 82) (v 79)).2.2.2.1)) 82 ((zr_myears n D Gn (v 71) (v 75) (v 76) (v 80) (v 81) (v 82) (v 79)).2.2.2.2.1)) w t) rfl (zs_myearsOn (v := (zb v 68 (upd (upd (v 68) 0 0) 11 0))) (w := w) n (by omega) D hD h8 Gn hG h4 hev hli) ?_
  show zk_T zk_mt zk_ex Ls xs zm_273 (29, [(0, .ref 69), (1, .int (nI n)), (2, .int 0)], []) (zH (zb (zb (zb (zb (zb (zb v 68 (upd (upd (upd (v 68) 0 0) 11 0) 26 ((zr_myears n D Gn (v 71) (v 75) (v 76) (v 80) (v 81) (v 82) (v 79)).2.1))) 76 ((zr_myears n D Gn (v 71) (v 75) (v 76) (v 80) (v 81) (v 82) (v 79)).1)) 79 ((zr_myears n D Gn (v 71) (v 75) (v 76) (v 80) (v 81) (v 82) (v 79)).2.2.2.2.2)) 80 ((zr_myears n D Gn (v 71) (v 75) (v 76) (v 80) (v 81) (v 82) (v 79)).2.2.1)) 81 ((zr_myears n D Gn (v 71) (v 75) (v 76) (v 80) (v 81) (v 82) (v 79)).2.2.2.1)) 82 ((zr_myears n D Gn (v 71) (v 75) (v 76) (v 80) (v 81) (v 82) (v 79)).2.2.2.2.1)) w t) _
  refine zk_T.adv 4 (f' := (35, [(0, .ref 69), (3, .int (-2)), (4, .int 0)], [])) (h' := zH (zb (zb (zb (zb (zb (zb v 68 (upd (upd (upd (v 68) 0 0) 11 0) 26 ((zr_myears n D Gn (v 71) (v 75) (v 76) (v 80) (v 81) (v 82) (v 79)).2.1))) 76 ((zr_myears n D Gn (v 71) (v 75) (v 76) (v 80) (v 81) (v 82) (v 79)).1)) 79 ((zr_myears n D Gn (v 71) (v 75) (v 76) (v 80) (v 81) (v 82) (v 79)).2.2.2.2.2)) 80 ((zr_myears n D Gn (v 71) (v 75) (v 76) (v 80) (v 81) (v 82) (v 79)).2.2.1)) 81 ((zr_myears n D Gn (v 71) (v 75) (v 76) (v 80) (v 81) (v 82) (v 79)).2.2.2.1)) 82 ((zr_myears n D Gn (v 71) (v 75) (v 76) (v 80) (v 81) (v 82) (v 79)).2.2.2.2.1)) w t) rfl ?_
  refine zl_mworst (v := (zb (zb (zb (zb (zb (zb v 68 (upd (upd (upd (v 68) 0 0) 11 0) 26 ((zr_myears n D Gn (v 71) (v 75) (v 76) (v 80) (v 81) (v 82) (v 79)).2.1))) 76 ((zr_myears n D Gn (v 71) (v 75) (v 76) (v 80) (v 81) (v 82) (v 79)).1)) 79 ((zr_myears n D Gn (v 71) (v 75) (v 76) (v 80) (v 81) (v 82) (v 79)).2.2.2.2.2)) 80 ((zr_myears n D Gn (v 71) (v 75) (v 76) (v 80) (v 81) (v 82) (v 79)).2.2.1)) 81 ((zr_myears n D Gn (v 71) (v 75) (v 76) (v 80) (v 81) (v 82) (v 79)).2.2.2.1)) 82 ((zr_myears n D Gn (v 71) (v 75) (v 76) (v 80) (v 81) (v 82) (v 79)).2.2.2.2.1))) (w := w) (t := t) D hD h8 (-2) _ (Or.inl rfl) ?_
  show zk_T zk_mt zk_ex Ls xs zm_273 (79, [(0, .ref 69), (3, .int (zf (zl_mworstG ((zr_myears n D Gn (v 71) (v 75) (v 76) (v 80) (v 81) (v 82) (v 79)).2.2.1)) D 0 (-2))), (4, .int (nI (0 + D)))], []) (zH (zb (zb (zb (zb (zb (zb v 68 (upd (upd (upd (v 68) 0 0) 11 0) 26 ((zr_myears n D Gn (v 71) (v 75) (v 76) (v 80) (v 81) (v 82) (v 79)).2.1))) 76 ((zr_myears n D Gn (v 71) (v 75) (v 76) (v 80) (v 81) (v 82) (v 79)).1)) 79 ((zr_myears n D Gn (v 71) (v 75) (v 76) (v 80) (v 81) (v 82) (v 79)).2.2.2.2.2)) 80 ((zr_myears n D Gn (v 71) (v 75) (v 76) (v 80) (v 81) (v 82) (v 79)).2.2.1)) 81 ((zr_myears n D Gn (v 71) (v 75) (v 76) (v 80) (v 81) (v 82) (v 79)).2.2.2.1)) 82 ((zr_myears n D Gn (v 71) (v 75) (v 76) (v 80) (v 81) (v 82) (v 79)).2.2.2.2.1)) w t) _
  refine zk_T.adv 1 (f' := (80, [(0, .ref 69), (3, .int (zf (zl_mworstG ((zr_myears n D Gn (v 71) (v 75) (v 76) (v 80) (v 81) (v 82) (v 79)).2.2.1)) D 0 (-2))), (4, .int (nI (0 + D)))], [.int (zf (zl_mworstG ((zr_myears n D Gn (v 71) (v 75) (v 76) (v 80) (v 81) (v 82) (v 79)).2.2.1)) D 0 (-2))])) (h' := zH (zb (zb (zb (zb (zb (zb v 68 (upd (upd (upd (v 68) 0 0) 11 0) 26 ((zr_myears n D Gn (v 71) (v 75) (v 76) (v 80) (v 81) (v 82) (v 79)).2.1))) 76 ((zr_myears n D Gn (v 71) (v 75) (v 76) (v 80) (v 81) (v 82) (v 79)).1)) 79 ((zr_myears n D Gn (v 71) (v 75) (v 76) (v 80) (v 81) (v 82) (v 79)).2.2.2.2.2)) 80 ((zr_myears n D Gn (v 71) (v 75) (v 76) (v 80) (v 81) (v 82) (v 79)).2.2.1)) 81 ((zr_myears n D Gn (v 71) (v 75) (v 76) (v 80) (v 81) (v 82) (v 79)).2.2.2.1)) 82 ((zr_myears n D Gn (v 71) (v 75) (v 76) (v 80) (v 81) (v 82) (v 79)).2.2.2.2.1)) w t) rfl ?_
  exact zk_T.rt rfl rfl (by rfl)
/-- BasketKeepModel.lostIn -/
theorem zM_lostIn_t (x : Int32) (hg : zr_misX (v 68 14) (v 71 3) x = 0) : zk_Cr zk_mt zk_ex Ls xs 226 [.ref 69, .int x] (zH v w t) (some (.int (-1)), zH (zb v 68 (upd (upd (v 68) 0 0) 11 1)) w t) := by
  refine zk_Cr.of (K := zm_226) rfl rfl rfl ?_
  show zk_T zk_mt zk_ex Ls xs zm_226 (0, [(0, .ref 69), (1, .int x)], []) (zH v w t) _
  refine zk_T.adv 1 (f' := (1, [(0, .ref 69), (1, .int x)], [.ref 69])) (h' := zH v w t) rfl ?_
  refine zk_T.cl (v := none) (h' := zH (zb v 68 (upd (upd (v 68) 0 0) 11 0)) w t) rfl (zs_manew (v := v) (w := w)) ?_
  show zk_T zk_mt zk_ex Ls xs zm_226 (4, [(0, .ref 69), (1, .int x)], []) (zH (zb v 68 (upd (upd (v 68) 0 0) 11 0)) w t) _
  refine zk_T.adv 2 (f' := (6, [(0, .ref 69), (1, .int x)], [.int x, .ref 69])) (h' := zH (zb v 68 (upd (upd (v 68) 0 0) 11 0)) w t) rfl ?_
  refine zk_T.cl (v := some (.int 0)) (h' := zH (zb v 68 (upd (upd (v 68) 0 0) 11 0)) w t) rfl (by have ee_ : zk_Cr zk_mt zk_ex Ls xs 117 [.ref 69, .int x] (zH (zb v 68 (upd (upd (v 68) 0 0) 11 0)) w t) (some (.int (zr_misX (v 68 14) (v 71 3) x)), zH (zb v 68 (upd (upd (v 68) 0 0) 11 0)) w t) := zs_misGood (v := (zb v 68 (upd (upd (v 68) 0 0) 11 0))) (w := w) x; rw [show (zr_misX (v 68 14) (v 71 3) x) = 0 from hg] at ee_; exact ee_) ?_
  show zk_T zk_mt zk_ex Ls xs zm_226 (9, [(0, .ref 69), (1, .int x)], [.int 0]) (zH (zb v 68 (upd (upd (v 68) 0 0) 11 0)) w t) _
  refine zk_T.br (f1 := (12, [(0, .ref 69), (1, .int x)], [])) (f2 := (18, [(0, .ref 69), (1, .int x)], [])) rfl (fun c1 => ?_) (fun c1 => absurd (by decide) (of_decide_eq_false c1))
  refine zk_T.adv 2 (f' := (14, [(0, .ref 69), (1, .int x)], [.int 1, .ref 69])) (h' := zH (zb v 68 (upd (upd (v 68) 0 0) 11 0)) w t) rfl ?_
  refine zk_T.cl (v := some (.int (-1))) (h' := zH (zb v 68 (upd (upd (v 68) 0 0) 11 1)) w t) rfl (zs_mno (v := (zb v 68 (upd (upd (v 68) 0 0) 11 0))) (w := w) 1) ?_
  show zk_T zk_mt zk_ex Ls xs zm_226 (17, [(0, .ref 69), (1, .int x)], [.int (-1)]) (zH (zb v 68 (upd (upd (v 68) 0 0) 11 1)) w t) _
  exact zk_T.rt rfl rfl (by rfl)
/-- BasketKeepModel.lostBy -/
theorem zM_lostBy_t (x : Int32) (hg : zr_misX (v 68 14) (v 71 3) x = 0) : zk_Cr zk_mt zk_ex Ls xs 266 [.ref 69, .int x] (zH v w t) (some (.int (-1)), zH (zb v 68 (upd (upd (v 68) 0 0) 11 1)) w t) := by
  refine zk_Cr.of (K := zm_266) rfl rfl rfl ?_
  show zk_T zk_mt zk_ex Ls xs zm_266 (0, [(0, .ref 69), (1, .int x)], []) (zH v w t) _
  refine zk_T.adv 1 (f' := (1, [(0, .ref 69), (1, .int x)], [.ref 69])) (h' := zH v w t) rfl ?_
  refine zk_T.cl (v := none) (h' := zH (zb v 68 (upd (upd (v 68) 0 0) 11 0)) w t) rfl (zs_manew (v := v) (w := w)) ?_
  show zk_T zk_mt zk_ex Ls xs zm_266 (4, [(0, .ref 69), (1, .int x)], []) (zH (zb v 68 (upd (upd (v 68) 0 0) 11 0)) w t) _
  refine zk_T.adv 2 (f' := (6, [(0, .ref 69), (1, .int x)], [.int x, .ref 69])) (h' := zH (zb v 68 (upd (upd (v 68) 0 0) 11 0)) w t) rfl ?_
  refine zk_T.cl (v := some (.int 0)) (h' := zH (zb v 68 (upd (upd (v 68) 0 0) 11 0)) w t) rfl (by have ee_ : zk_Cr zk_mt zk_ex Ls xs 117 [.ref 69, .int x] (zH (zb v 68 (upd (upd (v 68) 0 0) 11 0)) w t) (some (.int (zr_misX (v 68 14) (v 71 3) x)), zH (zb v 68 (upd (upd (v 68) 0 0) 11 0)) w t) := zs_misGood (v := (zb v 68 (upd (upd (v 68) 0 0) 11 0))) (w := w) x; rw [show (zr_misX (v 68 14) (v 71 3) x) = 0 from hg] at ee_; exact ee_) ?_
  show zk_T zk_mt zk_ex Ls xs zm_266 (9, [(0, .ref 69), (1, .int x)], [.int 0]) (zH (zb v 68 (upd (upd (v 68) 0 0) 11 0)) w t) _
  refine zk_T.br (f1 := (12, [(0, .ref 69), (1, .int x)], [])) (f2 := (18, [(0, .ref 69), (1, .int x)], [])) rfl (fun c1 => ?_) (fun c1 => absurd (by decide) (of_decide_eq_false c1))
  refine zk_T.adv 2 (f' := (14, [(0, .ref 69), (1, .int x)], [.int 1, .ref 69])) (h' := zH (zb v 68 (upd (upd (v 68) 0 0) 11 0)) w t) rfl ?_
  refine zk_T.cl (v := some (.int (-1))) (h' := zH (zb v 68 (upd (upd (v 68) 0 0) 11 1)) w t) rfl (zs_mno (v := (zb v 68 (upd (upd (v 68) 0 0) 11 0))) (w := w) 1) ?_
  show zk_T zk_mt zk_ex Ls xs zm_266 (17, [(0, .ref 69), (1, .int x)], [.int (-1)]) (zH (zb v 68 (upd (upd (v 68) 0 0) 11 1)) w t) _
  exact zk_T.rt rfl rfl (by rfl)
/-- BasketKeepModel.wornIn -/
theorem zM_wornIn_t (x : Int32) (hg : zr_misX (v 68 14) (v 71 2) x = 0) : zk_Cr zk_mt zk_ex Ls xs 227 [.ref 69, .int x] (zH v w t) (some (.int (-1)), zH (zb v 68 (upd (upd (v 68) 0 0) 11 1)) w t) := by
  refine zk_Cr.of (K := zm_227) rfl rfl rfl ?_
  show zk_T zk_mt zk_ex Ls xs zm_227 (0, [(0, .ref 69), (1, .int x)], []) (zH v w t) _
  refine zk_T.adv 1 (f' := (1, [(0, .ref 69), (1, .int x)], [.ref 69])) (h' := zH v w t) rfl ?_
  refine zk_T.cl (v := none) (h' := zH (zb v 68 (upd (upd (v 68) 0 0) 11 0)) w t) rfl (zs_manew (v := v) (w := w)) ?_
  show zk_T zk_mt zk_ex Ls xs zm_227 (4, [(0, .ref 69), (1, .int x)], []) (zH (zb v 68 (upd (upd (v 68) 0 0) 11 0)) w t) _
  refine zk_T.adv 2 (f' := (6, [(0, .ref 69), (1, .int x)], [.int x, .ref 69])) (h' := zH (zb v 68 (upd (upd (v 68) 0 0) 11 0)) w t) rfl ?_
  refine zk_T.cl (v := some (.int 0)) (h' := zH (zb v 68 (upd (upd (v 68) 0 0) 11 0)) w t) rfl (by have ee_ : zk_Cr zk_mt zk_ex Ls xs 118 [.ref 69, .int x] (zH (zb v 68 (upd (upd (v 68) 0 0) 11 0)) w t) (some (.int (zr_misX (v 68 14) (v 71 2) x)), zH (zb v 68 (upd (upd (v 68) 0 0) 11 0)) w t) := zs_misMaker (v := (zb v 68 (upd (upd (v 68) 0 0) 11 0))) (w := w) x; rw [show (zr_misX (v 68 14) (v 71 2) x) = 0 from hg] at ee_; exact ee_) ?_
  show zk_T zk_mt zk_ex Ls xs zm_227 (9, [(0, .ref 69), (1, .int x)], [.int 0]) (zH (zb v 68 (upd (upd (v 68) 0 0) 11 0)) w t) _
  refine zk_T.br (f1 := (12, [(0, .ref 69), (1, .int x)], [])) (f2 := (18, [(0, .ref 69), (1, .int x)], [])) rfl (fun c1 => ?_) (fun c1 => absurd (by decide) (of_decide_eq_false c1))
  refine zk_T.adv 2 (f' := (14, [(0, .ref 69), (1, .int x)], [.int 1, .ref 69])) (h' := zH (zb v 68 (upd (upd (v 68) 0 0) 11 0)) w t) rfl ?_
  refine zk_T.cl (v := some (.int (-1))) (h' := zH (zb v 68 (upd (upd (v 68) 0 0) 11 1)) w t) rfl (zs_mno (v := (zb v 68 (upd (upd (v 68) 0 0) 11 0))) (w := w) 1) ?_
  show zk_T zk_mt zk_ex Ls xs zm_227 (17, [(0, .ref 69), (1, .int x)], [.int (-1)]) (zH (zb v 68 (upd (upd (v 68) 0 0) 11 1)) w t) _
  exact zk_T.rt rfl rfl (by rfl)
/-- BasketKeepModel.lostBy -/
theorem zM_lostBy_f (a : Nat) (ha : a < 4) (hg : zr_misX (v 68 14) (v 71 3) (nI a) = 1) (D : Nat) (hD : v 71 1 = nI D) (h8 : D ≤ 8) (Gn : Nat) (hG : v 71 3 = nI Gn) (h4 : Gn ≤ 4) (hev : ∀ d, d < D → ¬ v 71 (7 + 2 * d) = 0) (hli : zk_lie Gn (v 75)) (n : Nat) (hn : nI n = 60) (hn6 : n ≤ 60) : zk_Cr zk_mt zk_ex Ls xs 266 [.ref 69, .int (nI a)] (zH v w t) (some (.int (((zr_myears n D Gn (v 71) (v 75) (v 76) (v 80) (v 81) (v 82) (v 79)).2.2.2.1) a)), zH (zb (zb (zb (zb (zb (zb v 68 (upd (upd (upd (v 68) 0 0) 11 0) 26 ((zr_myears n D Gn (v 71) (v 75) (v 76) (v 80) (v 81) (v 82) (v 79)).2.1))) 76 ((zr_myears n D Gn (v 71) (v 75) (v 76) (v 80) (v 81) (v 82) (v 79)).1)) 79 ((zr_myears n D Gn (v 71) (v 75) (v 76) (v 80) (v 81) (v 82) (v 79)).2.2.2.2.2)) 80 ((zr_myears n D Gn (v 71) (v 75) (v 76) (v 80) (v 81) (v 82) (v 79)).2.2.1)) 81 ((zr_myears n D Gn (v 71) (v 75) (v 76) (v 80) (v 81) (v 82) (v 79)).2.2.2.1)) 82 ((zr_myears n D Gn (v 71) (v 75) (v 76) (v 80) (v 81) (v 82) (v 79)).2.2.2.2.1)) w t) := by
  refine zk_Cr.of (K := zm_266) rfl rfl rfl ?_
  show zk_T zk_mt zk_ex Ls xs zm_266 (0, [(0, .ref 69), (1, .int (nI a))], []) (zH v w t) _
  refine zk_T.adv 1 (f' := (1, [(0, .ref 69), (1, .int (nI a))], [.ref 69])) (h' := zH v w t) rfl ?_
  refine zk_T.cl (v := none) (h' := zH (zb v 68 (upd (upd (v 68) 0 0) 11 0)) w t) rfl (zs_manew (v := v) (w := w)) ?_
  show zk_T zk_mt zk_ex Ls xs zm_266 (4, [(0, .ref 69), (1, .int (nI a))], []) (zH (zb v 68 (upd (upd (v 68) 0 0) 11 0)) w t) _
  refine zk_T.adv 2 (f' := (6, [(0, .ref 69), (1, .int (nI a))], [.int (nI a), .ref 69])) (h' := zH (zb v 68 (upd (upd (v 68) 0 0) 11 0)) w t) rfl ?_
  refine zk_T.cl (v := some (.int 1)) (h' := zH (zb v 68 (upd (upd (v 68) 0 0) 11 0)) w t) rfl (by have ee_ : zk_Cr zk_mt zk_ex Ls xs 117 [.ref 69, .int (nI a)] (zH (zb v 68 (upd (upd (v 68) 0 0) 11 0)) w t) (some (.int (zr_misX (v 68 14) (v 71 3) (nI a))), zH (zb v 68 (upd (upd (v 68) 0 0) 11 0)) w t) := zs_misGood (v := (zb v 68 (upd (upd (v 68) 0 0) 11 0))) (w := w) (nI a); rw [show (zr_misX (v 68 14) (v 71 3) (nI a)) = 1 from hg] at ee_; exact ee_) ?_
  show zk_T zk_mt zk_ex Ls xs zm_266 (9, [(0, .ref 69), (1, .int (nI a))], [.int 1]) (zH (zb v 68 (upd (upd (v 68) 0 0) 11 0)) w t) _
  refine zk_T.br (f1 := (12, [(0, .ref 69), (1, .int (nI a))], [])) (f2 := (18, [(0, .ref 69), (1, .int (nI a))], [])) rfl (fun c1 => absurd (of_decide_eq_true c1) (by decide)) (fun c1 => ?_)
  refine zk_T.adv 2 (f' := (21, [(0, .ref 69), (1, .int (nI a))], [.int 60, .ref 69])) (h' := zH (zb v 68 (upd (upd (v 68) 0 0) 11 0)) w t) rfl ?_
  refine zk_T.cl (v := none) (h' := zH (zb (zb (zb (zb (zb (zb v 68 (upd (upd (upd (v 68) 0 0) 11 0) 26 ((zr_myears n D Gn (v 71) (v 75) (v 76) (v 80) (v 81) (v 82) (v 79)).2.1))) 76 ((zr_myears n D Gn (v 71) (v 75) (v 76) (v 80) (v 81) (v 82) (v 79)).1)) 79 ((zr_myears n D Gn (v 71) (v 75) (v 76) (v 80) (v 81) (v 82) (v 79)).2.2.2.2.2)) 80 ((zr_myears n D Gn (v 71) (v 75) (v 76) (v 80) (v 81) (v 82) (v 79)).2.2.1)) 81 ((zr_myears n D Gn (v 71) (v 75) (v 76) (v 80) (v 81) (v 82) (v 79)).2.2.2.1)) 82 ((zr_myears n D Gn (v 71) (v 75) (v 76) (v 80) (v 81) (v 82) (v 79)).2.2.2.2.1)) w t) rfl (by have ee_ : zk_Cr zk_mt zk_ex Ls xs 249 [.ref 69, .int (nI n)] (zH (zb v 68 (upd (upd (v 68) 0 0) 11 0)) w t) (none, zH (zb (zb (zb (zb (zb (zb v 68 (upd (upd (upd (v 68) 0 0) 11 0) 26 ((zr_myears n D Gn (v 71) (v 75) (v 76) (v 80) (v 81) (v 82) (v 79)).2.1))) 76 ((zr_myears n D Gn (v 71) (v 75) (v 76) (v 80) (v 81) (v 82) (v 79)).1)) 79 ((zr_myears n D Gn (v 71) (v 75) (v 76) (v 80) (v 81) (v 82) (v 79)).2.2.2.2.2)) 80 ((zr_myears n D Gn (v 71) (v 75) (v 76) (v 80) (v 81) (v 82) (v 79)).2.2.1)) 81 ((zr_myears n D Gn (v 71) (v 75) (v 76) (v 80) (v 81) (v 82) (v 79)).2.2.2.1)) 82 ((zr_myears n D Gn (v 71) (v 75) (v 76) (v 80) (v 81) (v 82) (v 79)).2.2.2.2.1)) w t) := (zs_myearsOn (v := (zb v 68 (upd (upd (v 68) 0 0) 11 0))) (w := w) n (by omega) D hD h8 Gn hG h4 hev hli); rw [hn] at ee_; exact ee_) ?_
  show zk_T zk_mt zk_ex Ls xs zm_266 (24, [(0, .ref 69), (1, .int (nI a))], []) (zH (zb (zb (zb (zb (zb (zb v 68 (upd (upd (upd (v 68) 0 0) 11 0) 26 ((zr_myears n D Gn (v 71) (v 75) (v 76) (v 80) (v 81) (v 82) (v 79)).2.1))) 76 ((zr_myears n D Gn (v 71) (v 75) (v 76) (v 80) (v 81) (v 82) (v 79)).1)) 79 ((zr_myears n D Gn (v 71) (v 75) (v 76) (v 80) (v 81) (v 82) (v 79)).2.2.2.2.2)) 80 ((zr_myears n D Gn (v 71) (v 75) (v 76) (v 80) (v 81) (v 82) (v 79)).2.2.1)) 81 ((zr_myears n D Gn (v 71) (v 75) (v 76) (v 80) (v 81) (v 82) (v 79)).2.2.2.1)) 82 ((zr_myears n D Gn (v 71) (v 75) (v 76) (v 80) (v 81) (v 82) (v 79)).2.2.2.2.1)) w t) _
  refine zk_T.adv 3 (f' := (29, [(0, .ref 69), (1, .int (nI a))], [.int (nI a), .ref 82])) (h' := zH (zb (zb (zb (zb (zb (zb v 68 (upd (upd (upd (v 68) 0 0) 11 0) 26 ((zr_myears n D Gn (v 71) (v 75) (v 76) (v 80) (v 81) (v 82) (v 79)).2.1))) 76 ((zr_myears n D Gn (v 71) (v 75) (v 76) (v 80) (v 81) (v 82) (v 79)).1)) 79 ((zr_myears n D Gn (v 71) (v 75) (v 76) (v 80) (v 81) (v 82) (v 79)).2.2.2.2.2)) 80 ((zr_myears n D Gn (v 71) (v 75) (v 76) (v 80) (v 81) (v 82) (v 79)).2.2.1)) 81 ((zr_myears n D Gn (v 71) (v 75) (v 76) (v 80) (v 81) (v 82) (v 79)).2.2.2.1)) 82 ((zr_myears n D Gn (v 71) (v 75) (v 76) (v 80) (v 81) (v 82) (v 79)).2.2.2.2.1)) w t) rfl ?_
  refine zk_T.ob (f' := (30, [(0, .ref 69), (1, .int (nI a))], [.int (((zr_myears n D Gn (v 71) (v 75) (v 76) (v 80) (v 81) (v 82) (v 79)).2.2.2.1) (nI a).toNatClampNeg)])) (h' := zH (zb (zb (zb (zb (zb (zb v 68 (upd (upd (upd (v 68) 0 0) 11 0) 26 ((zr_myears n D Gn (v 71) (v 75) (v 76) (v 80) (v 81) (v 82) (v 79)).2.1))) 76 ((zr_myears n D Gn (v 71) (v 75) (v 76) (v 80) (v 81) (v 82) (v 79)).1)) 79 ((zr_myears n D Gn (v 71) (v 75) (v 76) (v 80) (v 81) (v 82) (v 79)).2.2.2.2.2)) 80 ((zr_myears n D Gn (v 71) (v 75) (v 76) (v 80) (v 81) (v 82) (v 79)).2.2.1)) 81 ((zr_myears n D Gn (v 71) (v 75) (v 76) (v 80) (v 81) (v 82) (v 79)).2.2.2.1)) 82 ((zr_myears n D Gn (v 71) (v 75) (v 76) (v 80) (v 81) (v 82) (v 79)).2.2.2.2.1)) w t) rfl (by first | exact zk_inN (by omega) (by decide) | decide) ?_
  rw [nI_clamp (show a < 2 ^ 31 by omega)]
  exact zk_T.rt rfl rfl (by rfl)
/-- BasketKeepModel.lastsIn -/
theorem zM_lastsIn_t (x y : Int32) (hg : zr_misX (v 68 14) (v 71 2) x = 0) : zk_Cr zk_mt zk_ex Ls xs 262 [.ref 69, .int x, .int y] (zH v w t) (some (.int (-1)), zH (zb v 68 (upd (upd (v 68) 0 0) 11 1)) w t) := by
  refine zk_Cr.of (K := zm_262) rfl rfl rfl ?_
  show zk_T zk_mt zk_ex Ls xs zm_262 (0, [(0, .ref 69), (1, .int x), (2, .int y)], []) (zH v w t) _
  refine zk_T.adv 1 (f' := (1, [(0, .ref 69), (1, .int x), (2, .int y)], [.ref 69])) (h' := zH v w t) rfl ?_
  refine zk_T.cl (v := none) (h' := zH (zb v 68 (upd (upd (v 68) 0 0) 11 0)) w t) rfl (zs_manew (v := v) (w := w)) ?_
  show zk_T zk_mt zk_ex Ls xs zm_262 (4, [(0, .ref 69), (1, .int x), (2, .int y)], []) (zH (zb v 68 (upd (upd (v 68) 0 0) 11 0)) w t) _
  refine zk_T.adv 3 (f' := (7, [(0, .ref 69), (1, .int x), (2, .int y)], [.int x, .ref 69, .ref 69])) (h' := zH (zb v 68 (upd (upd (v 68) 0 0) 11 0)) w t) rfl ?_
  refine zk_T.cl (v := some (.int 0)) (h' := zH (zb v 68 (upd (upd (v 68) 0 0) 11 0)) w t) rfl (by have ee_ : zk_Cr zk_mt zk_ex Ls xs 118 [.ref 69, .int x] (zH (zb v 68 (upd (upd (v 68) 0 0) 11 0)) w t) (some (.int (zr_misX (v 68 14) (v 71 2) x)), zH (zb v 68 (upd (upd (v 68) 0 0) 11 0)) w t) := zs_misMaker (v := (zb v 68 (upd (upd (v 68) 0 0) 11 0))) (w := w) x; rw [show (zr_misX (v 68 14) (v 71 2) x) = 0 from hg] at ee_; exact ee_) ?_
  show zk_T zk_mt zk_ex Ls xs zm_262 (10, [(0, .ref 69), (1, .int x), (2, .int y)], [.int 0, .ref 69]) (zH (zb v 68 (upd (upd (v 68) 0 0) 11 0)) w t) _
  refine zk_T.adv 1 (f' := (11, [(0, .ref 69), (1, .int x), (2, .int y)], [.int y, .int 0, .ref 69])) (h' := zH (zb v 68 (upd (upd (v 68) 0 0) 11 0)) w t) rfl ?_
  refine zk_T.cl (v := some (.int 1)) (h' := zH (zb v 68 (upd (upd (v 68) 0 0) 11 0)) w t) rfl (zs_maheadWhy (v := (zb v 68 (upd (upd (v 68) 0 0) 11 0))) (w := w) 0 y) ?_
  show zk_T zk_mt zk_ex Ls xs zm_262 (14, [(0, .ref 69), (1, .int x), (2, .int y)], [.int 1]) (zH (zb v 68 (upd (upd (v 68) 0 0) 11 0)) w t) _
  refine zk_T.adv 2 (f' := (16, [(0, .ref 69), (1, .int x), (2, .int y), (3, .int 1)], [.int 1])) (h' := zH (zb v 68 (upd (upd (v 68) 0 0) 11 0)) w t) rfl ?_
  refine zk_T.br (f1 := (25, [(0, .ref 69), (1, .int x), (2, .int y), (3, .int 1)], [])) (f2 := (19, [(0, .ref 69), (1, .int x), (2, .int y), (3, .int 1)], [])) rfl (fun c1 => absurd (of_decide_eq_true c1) (by decide)) (fun c1 => ?_)
  refine zk_T.adv 2 (f' := (21, [(0, .ref 69), (1, .int x), (2, .int y), (3, .int 1)], [.int 1, .ref 69])) (h' := zH (zb v 68 (upd (upd (v 68) 0 0) 11 0)) w t) rfl ?_
  refine zk_T.cl (v := some (.int (-1))) (h' := zH (zb v 68 (upd (upd (v 68) 0 0) 11 1)) w t) rfl (zs_mno (v := (zb v 68 (upd (upd (v 68) 0 0) 11 0))) (w := w) 1) ?_
  show zk_T zk_mt zk_ex Ls xs zm_262 (24, [(0, .ref 69), (1, .int x), (2, .int y), (3, .int 1)], [.int (-1)]) (zH (zb v 68 (upd (upd (v 68) 0 0) 11 1)) w t) _
  exact zk_T.rt rfl rfl (by rfl)
/-- BasketKeepModel.lastsIn -/
theorem zM_lastsIn_o (z x : Int32) (hg : zr_misX (v 68 14) (v 71 2) z = 1) (hw : zr_maheadWhy 1 x = 2) : zk_Cr zk_mt zk_ex Ls xs 262 [.ref 69, .int z, .int x] (zH v w t) (some (.int (-1)), zH (zb v 68 (upd (upd (v 68) 0 0) 11 2)) w t) := by
  refine zk_Cr.of (K := zm_262) rfl rfl rfl ?_
  show zk_T zk_mt zk_ex Ls xs zm_262 (0, [(0, .ref 69), (1, .int z), (2, .int x)], []) (zH v w t) _
  refine zk_T.adv 1 (f' := (1, [(0, .ref 69), (1, .int z), (2, .int x)], [.ref 69])) (h' := zH v w t) rfl ?_
  refine zk_T.cl (v := none) (h' := zH (zb v 68 (upd (upd (v 68) 0 0) 11 0)) w t) rfl (zs_manew (v := v) (w := w)) ?_
  show zk_T zk_mt zk_ex Ls xs zm_262 (4, [(0, .ref 69), (1, .int z), (2, .int x)], []) (zH (zb v 68 (upd (upd (v 68) 0 0) 11 0)) w t) _
  refine zk_T.adv 3 (f' := (7, [(0, .ref 69), (1, .int z), (2, .int x)], [.int z, .ref 69, .ref 69])) (h' := zH (zb v 68 (upd (upd (v 68) 0 0) 11 0)) w t) rfl ?_
  refine zk_T.cl (v := some (.int 1)) (h' := zH (zb v 68 (upd (upd (v 68) 0 0) 11 0)) w t) rfl (by have ee_ : zk_Cr zk_mt zk_ex Ls xs 118 [.ref 69, .int z] (zH (zb v 68 (upd (upd (v 68) 0 0) 11 0)) w t) (some (.int (zr_misX (v 68 14) (v 71 2) z)), zH (zb v 68 (upd (upd (v 68) 0 0) 11 0)) w t) := zs_misMaker (v := (zb v 68 (upd (upd (v 68) 0 0) 11 0))) (w := w) z; rw [show (zr_misX (v 68 14) (v 71 2) z) = 1 from hg] at ee_; exact ee_) ?_
  show zk_T zk_mt zk_ex Ls xs zm_262 (10, [(0, .ref 69), (1, .int z), (2, .int x)], [.int 1, .ref 69]) (zH (zb v 68 (upd (upd (v 68) 0 0) 11 0)) w t) _
  refine zk_T.adv 1 (f' := (11, [(0, .ref 69), (1, .int z), (2, .int x)], [.int x, .int 1, .ref 69])) (h' := zH (zb v 68 (upd (upd (v 68) 0 0) 11 0)) w t) rfl ?_
  refine zk_T.cl (v := some (.int 2)) (h' := zH (zb v 68 (upd (upd (v 68) 0 0) 11 0)) w t) rfl (by have ee_ : zk_Cr zk_mt zk_ex Ls xs 108 [.ref 69, .int 1, .int x] (zH (zb v 68 (upd (upd (v 68) 0 0) 11 0)) w t) (some (.int (zr_maheadWhy 1 x)), zH (zb v 68 (upd (upd (v 68) 0 0) 11 0)) w t) := zs_maheadWhy (v := (zb v 68 (upd (upd (v 68) 0 0) 11 0))) (w := w) 1 x; rw [show (zr_maheadWhy 1 x) = 2 from hw] at ee_; exact ee_) ?_
  show zk_T zk_mt zk_ex Ls xs zm_262 (14, [(0, .ref 69), (1, .int z), (2, .int x)], [.int 2]) (zH (zb v 68 (upd (upd (v 68) 0 0) 11 0)) w t) _
  refine zk_T.adv 2 (f' := (16, [(0, .ref 69), (1, .int z), (2, .int x), (3, .int 2)], [.int 2])) (h' := zH (zb v 68 (upd (upd (v 68) 0 0) 11 0)) w t) rfl ?_
  refine zk_T.br (f1 := (25, [(0, .ref 69), (1, .int z), (2, .int x), (3, .int 2)], [])) (f2 := (19, [(0, .ref 69), (1, .int z), (2, .int x), (3, .int 2)], [])) rfl (fun c1 => absurd (of_decide_eq_true c1) (by decide)) (fun c1 => ?_)
  refine zk_T.adv 2 (f' := (21, [(0, .ref 69), (1, .int z), (2, .int x), (3, .int 2)], [.int 2, .ref 69])) (h' := zH (zb v 68 (upd (upd (v 68) 0 0) 11 0)) w t) rfl ?_
  refine zk_T.cl (v := some (.int (-1))) (h' := zH (zb v 68 (upd (upd (v 68) 0 0) 11 2)) w t) rfl (zs_mno (v := (zb v 68 (upd (upd (v 68) 0 0) 11 0))) (w := w) 2) ?_
  show zk_T zk_mt zk_ex Ls xs zm_262 (24, [(0, .ref 69), (1, .int z), (2, .int x), (3, .int 2)], [.int (-1)]) (zH (zb v 68 (upd (upd (v 68) 0 0) 11 2)) w t) _
  exact zk_T.rt rfl rfl (by rfl)
/-- BasketKeepModel.lastsIn -/
theorem zM_lastsIn_f (e : Nat) (he : e < 5) (hg : zr_misX (v 68 14) (v 71 2) (nI e) = 1) (n : Nat) (hn : n ≤ 60) (D : Nat) (hD : v 71 1 = nI D) (h8 : D ≤ 8) (Gn : Nat) (hG : v 71 3 = nI Gn) (h4 : Gn ≤ 4) (hev : ∀ d, d < D → ¬ v 71 (7 + 2 * d) = 0) (hli : zk_lie Gn (v 75)) : zk_Cr zk_mt zk_ex Ls xs 262 [.ref 69, .int (nI e), .int (nI n)] (zH v w t) (some (.int (((zr_myears n D Gn (v 71) (v 75) (v 76) (v 80) (v 81) (v 82) (v 79)).1) e)), zH (zb (zb (zb (zb (zb (zb v 68 (upd (upd (upd (v 68) 0 0) 11 0) 26 ((zr_myears n D Gn (v 71) (v 75) (v 76) (v 80) (v 81) (v 82) (v 79)).2.1))) 76 ((zr_myears n D Gn (v 71) (v 75) (v 76) (v 80) (v 81) (v 82) (v 79)).1)) 79 ((zr_myears n D Gn (v 71) (v 75) (v 76) (v 80) (v 81) (v 82) (v 79)).2.2.2.2.2)) 80 ((zr_myears n D Gn (v 71) (v 75) (v 76) (v 80) (v 81) (v 82) (v 79)).2.2.1)) 81 ((zr_myears n D Gn (v 71) (v 75) (v 76) (v 80) (v 81) (v 82) (v 79)).2.2.2.1)) 82 ((zr_myears n D Gn (v 71) (v 75) (v 76) (v 80) (v 81) (v 82) (v 79)).2.2.2.2.1)) w t) := by
  refine zk_Cr.of (K := zm_262) rfl rfl rfl ?_
  show zk_T zk_mt zk_ex Ls xs zm_262 (0, [(0, .ref 69), (1, .int (nI e)), (2, .int (nI n))], []) (zH v w t) _
  refine zk_T.adv 1 (f' := (1, [(0, .ref 69), (1, .int (nI e)), (2, .int (nI n))], [.ref 69])) (h' := zH v w t) rfl ?_
  refine zk_T.cl (v := none) (h' := zH (zb v 68 (upd (upd (v 68) 0 0) 11 0)) w t) rfl (zs_manew (v := v) (w := w)) ?_
  show zk_T zk_mt zk_ex Ls xs zm_262 (4, [(0, .ref 69), (1, .int (nI e)), (2, .int (nI n))], []) (zH (zb v 68 (upd (upd (v 68) 0 0) 11 0)) w t) _
  refine zk_T.adv 3 (f' := (7, [(0, .ref 69), (1, .int (nI e)), (2, .int (nI n))], [.int (nI e), .ref 69, .ref 69])) (h' := zH (zb v 68 (upd (upd (v 68) 0 0) 11 0)) w t) rfl ?_
  refine zk_T.cl (v := some (.int 1)) (h' := zH (zb v 68 (upd (upd (v 68) 0 0) 11 0)) w t) rfl (by have ee_ : zk_Cr zk_mt zk_ex Ls xs 118 [.ref 69, .int (nI e)] (zH (zb v 68 (upd (upd (v 68) 0 0) 11 0)) w t) (some (.int (zr_misX (v 68 14) (v 71 2) (nI e))), zH (zb v 68 (upd (upd (v 68) 0 0) 11 0)) w t) := zs_misMaker (v := (zb v 68 (upd (upd (v 68) 0 0) 11 0))) (w := w) (nI e); rw [show (zr_misX (v 68 14) (v 71 2) (nI e)) = 1 from hg] at ee_; exact ee_) ?_
  show zk_T zk_mt zk_ex Ls xs zm_262 (10, [(0, .ref 69), (1, .int (nI e)), (2, .int (nI n))], [.int 1, .ref 69]) (zH (zb v 68 (upd (upd (v 68) 0 0) 11 0)) w t) _
  refine zk_T.adv 1 (f' := (11, [(0, .ref 69), (1, .int (nI e)), (2, .int (nI n))], [.int (nI n), .int 1, .ref 69])) (h' := zH (zb v 68 (upd (upd (v 68) 0 0) 11 0)) w t) rfl ?_
  refine zk_T.cl (v := some (.int 0)) (h' := zH (zb v 68 (upd (upd (v 68) 0 0) 11 0)) w t) rfl (by have ee_ : zk_Cr zk_mt zk_ex Ls xs 108 [.ref 69, .int 1, .int (nI n)] (zH (zb v 68 (upd (upd (v 68) 0 0) 11 0)) w t) (some (.int (zr_maheadWhy 1 (nI n))), zH (zb v 68 (upd (upd (v 68) 0 0) 11 0)) w t) := zs_maheadWhy (v := (zb v 68 (upd (upd (v 68) 0 0) 11 0))) (w := w) 1 (nI n); rw [show (zr_maheadWhy 1 (nI n)) = 0 from (zk_ah1 n hn)] at ee_; exact ee_) ?_
  show zk_T zk_mt zk_ex Ls xs zm_262 (14, [(0, .ref 69), (1, .int (nI e)), (2, .int (nI n))], [.int 0]) (zH (zb v 68 (upd (upd (v 68) 0 0) 11 0)) w t) _
  refine zk_T.adv 2 (f' := (16, [(0, .ref 69), (1, .int (nI e)), (2, .int (nI n)), (3, .int 0)], [.int 0])) (h' := zH (zb v 68 (upd (upd (v 68) 0 0) 11 0)) w t) rfl ?_
  refine zk_T.br (f1 := (25, [(0, .ref 69), (1, .int (nI e)), (2, .int (nI n)), (3, .int 0)], [])) (f2 := (19, [(0, .ref 69), (1, .int (nI e)), (2, .int (nI n)), (3, .int 0)], [])) rfl (fun c1 => ?_) (fun c1 => absurd (by decide) (of_decide_eq_false c1))
  refine zk_T.adv 2 (f' := (27, [(0, .ref 69), (1, .int (nI e)), (2, .int (nI n)), (3, .int 0)], [.int (nI n), .ref 69])) (h' := zH (zb v 68 (upd (upd (v 68) 0 0) 11 0)) w t) rfl ?_
  refine zk_T.cl (v := none) (h' := zH (zb (zb (zb (zb (zb (zb v 68 (upd (upd (upd (v 68) 0 0) 11 0) 26 ((zr_myears n D Gn (v 71) (v 75) (v 76) (v 80) (v 81) (v 82) (v 79)).2.1))) 76 ((zr_myears n D Gn (v 71) (v 75) (v 76) (v 80) (v 81) (v 82) (v 79)).1)) 79 ((zr_myears n D Gn (v 71) (v 75) (v 76) (v 80) (v 81) (v 82) (v 79)).2.2.2.2.2)) 80 ((zr_myears n D Gn (v 71) (v 75) (v 76) (v 80) (v 81) (v 82) (v 79)).2.2.1)) 81 ((zr_myears n D Gn (v 71) (v 75) (v 76) (v 80) (v 81) (v 82) (v 79)).2.2.2.1)) 82 ((zr_myears n D Gn (v 71) (v 75) (v 76) (v 80) (v 81) (v 82) (v 79)).2.2.2.2.1)) w t) rfl (zs_myearsOn (v := (zb v 68 (upd (upd (v 68) 0 0) 11 0))) (w := w) n (by omega) D hD h8 Gn hG h4 hev hli) ?_
  show zk_T zk_mt zk_ex Ls xs zm_262 (30, [(0, .ref 69), (1, .int (nI e)), (2, .int (nI n)), (3, .int 0)], []) (zH (zb (zb (zb (zb (zb (zb v 68 (upd (upd (upd (v 68) 0 0) 11 0) 26 ((zr_myears n D Gn (v 71) (v 75) (v 76) (v 80) (v 81) (v 82) (v 79)).2.1))) 76 ((zr_myears n D Gn (v 71) (v 75) (v 76) (v 80) (v 81) (v 82) (v 79)).1)) 79 ((zr_myears n D Gn (v 71) (v 75) (v 76) (v 80) (v 81) (v 82) (v 79)).2.2.2.2.2)) 80 ((zr_myears n D Gn (v 71) (v 75) (v 76) (v 80) (v 81) (v 82) (v 79)).2.2.1)) 81 ((zr_myears n D Gn (v 71) (v 75) (v 76) (v 80) (v 81) (v 82) (v 79)).2.2.2.1)) 82 ((zr_myears n D Gn (v 71) (v 75) (v 76) (v 80) (v 81) (v 82) (v 79)).2.2.2.2.1)) w t) _
  refine zk_T.adv 3 (f' := (35, [(0, .ref 69), (1, .int (nI e)), (2, .int (nI n)), (3, .int 0)], [.int (nI e), .ref 77])) (h' := zH (zb (zb (zb (zb (zb (zb v 68 (upd (upd (upd (v 68) 0 0) 11 0) 26 ((zr_myears n D Gn (v 71) (v 75) (v 76) (v 80) (v 81) (v 82) (v 79)).2.1))) 76 ((zr_myears n D Gn (v 71) (v 75) (v 76) (v 80) (v 81) (v 82) (v 79)).1)) 79 ((zr_myears n D Gn (v 71) (v 75) (v 76) (v 80) (v 81) (v 82) (v 79)).2.2.2.2.2)) 80 ((zr_myears n D Gn (v 71) (v 75) (v 76) (v 80) (v 81) (v 82) (v 79)).2.2.1)) 81 ((zr_myears n D Gn (v 71) (v 75) (v 76) (v 80) (v 81) (v 82) (v 79)).2.2.2.1)) 82 ((zr_myears n D Gn (v 71) (v 75) (v 76) (v 80) (v 81) (v 82) (v 79)).2.2.2.2.1)) w t) rfl ?_
  refine zk_T.ob (f' := (36, [(0, .ref 69), (1, .int (nI e)), (2, .int (nI n)), (3, .int 0)], [.int (((zr_myears n D Gn (v 71) (v 75) (v 76) (v 80) (v 81) (v 82) (v 79)).1) (nI e).toNatClampNeg)])) (h' := zH (zb (zb (zb (zb (zb (zb v 68 (upd (upd (upd (v 68) 0 0) 11 0) 26 ((zr_myears n D Gn (v 71) (v 75) (v 76) (v 80) (v 81) (v 82) (v 79)).2.1))) 76 ((zr_myears n D Gn (v 71) (v 75) (v 76) (v 80) (v 81) (v 82) (v 79)).1)) 79 ((zr_myears n D Gn (v 71) (v 75) (v 76) (v 80) (v 81) (v 82) (v 79)).2.2.2.2.2)) 80 ((zr_myears n D Gn (v 71) (v 75) (v 76) (v 80) (v 81) (v 82) (v 79)).2.2.1)) 81 ((zr_myears n D Gn (v 71) (v 75) (v 76) (v 80) (v 81) (v 82) (v 79)).2.2.2.1)) 82 ((zr_myears n D Gn (v 71) (v 75) (v 76) (v 80) (v 81) (v 82) (v 79)).2.2.2.2.1)) w t) rfl (by first | exact zk_inN (by omega) (by decide) | decide) ?_
  rw [nI_clamp (show e < 2 ^ 31 by omega)]
  exact zk_T.rt rfl rfl (by rfl)
def zl_mlostInG (D Gn : Nat) (rr slp : Nat → Int32) (a : Nat) (j : Nat) (s : (Nat → Int32) × Int32 × (Nat → Int32) × (Nat → Int32) × (Nat → Int32)) : ((Nat → Int32) × Int32 × (Nat → Int32) × (Nat → Int32) × (Nat → Int32)) ⊕ Int32 × (Nat → Int32) × Int32 × (Nat → Int32) × (Nat → Int32) × (Nat → Int32) := match s with
  | (row, ou, lt, lw, oo) => if (zr_mhasBit (row 14) (nI a)) = 0 then .inl ((zr_myear D Gn (rr) row (slp) ou lt lw oo).1, (zr_myear D Gn (rr) row (slp) ou lt lw oo).2.1, (zr_myear D Gn (rr) row (slp) ou lt lw oo).2.2.1, (zr_myear D Gn (rr) row (slp) ou lt lw oo).2.2.2.1, (zr_myear D Gn (rr) row (slp) ou lt lw oo).2.2.2.2) else .inr (nI j, row, ou, lt, lw, oo)
theorem zl_mlostIn (a : Nat) (ha : a < 4) (D : Nat) (hD : v 71 1 = nI D) (h8 : D ≤ 8) (Gn : Nat) (hG : v 71 3 = nI Gn) (h4 : Gn ≤ 4) (hev : ∀ d, d < D → ¬ v 71 (7 + 2 * d) = 0) : ∀ (s : (Nat → Int32) × Int32 × (Nat → Int32) × (Nat → Int32) × (Nat → Int32)) (q : Option Value × zk_H), zk_lie Gn s.1 → zk_or (fun (s : (Nat → Int32) × Int32 × (Nat → Int32) × (Nat → Int32) × (Nat → Int32)) => zk_T zk_mt zk_ex Ls xs zm_226 (60, [(0, .ref 69), (1, .int (nI a)), (2, .int (nI (0 + 61)))], []) (zH (zb (zb (zb (zb (zb v 68 (upd (upd (upd (v 68) 0 0) 11 0) 26 s.2.1)) 76 s.1) 80 s.2.2.1) 81 s.2.2.2.1) 82 s.2.2.2.2) w t) q) (fun (r : Int32 × (Nat → Int32) × Int32 × (Nat → Int32) × (Nat → Int32) × (Nat → Int32)) => (some (.int r.1), zH (zb (zb (zb (zb (zb v 68 (upd (upd (upd (v 68) 0 0) 11 0) 26 r.2.2.1)) 76 r.2.1) 80 r.2.2.2.1) 81 r.2.2.2.2.1) 82 r.2.2.2.2.2) w t) = q) (zfr (zl_mlostInG D Gn (v 71) (v 79) a) 61 0 s) → zk_T zk_mt zk_ex Ls xs zm_226 (24, [(0, .ref 69), (1, .int (nI a)), (2, .int (nI 0))], []) (zH (zb (zb (zb (zb (zb v 68 (upd (upd (upd (v 68) 0 0) 11 0) 26 s.2.1)) 76 s.1) 80 s.2.2.1) 81 s.2.2.2.1) 82 s.2.2.2.2) w t) q := by
  intro s q hP0 hk
  refine zk_forX (M := zm_226) (fun j (s : (Nat → Int32) × Int32 × (Nat → Int32) × (Nat → Int32) × (Nat → Int32)) => (24, [(0, .ref 69), (1, .int (nI a)), (2, .int (nI j))], [])) (fun _ (s : (Nat → Int32) × Int32 × (Nat → Int32) × (Nat → Int32) × (Nat → Int32)) => zH (zb (zb (zb (zb (zb v 68 (upd (upd (upd (v 68) 0 0) 11 0) 26 s.2.1)) 76 s.1) 80 s.2.2.1) 81 s.2.2.2.1) 82 s.2.2.2.2) w t) (zl_mlostInG D Gn (v 71) (v 79) a) (fun j (s : (Nat → Int32) × Int32 × (Nat → Int32) × (Nat → Int32) × (Nat → Int32)) => zk_lie Gn s.1) (fun (s : (Nat → Int32) × Int32 × (Nat → Int32) × (Nat → Int32) × (Nat → Int32)) => (60, [(0, .ref 69), (1, .int (nI a)), (2, .int (nI (0 + 61)))], [])) (fun (s : (Nat → Int32) × Int32 × (Nat → Int32) × (Nat → Int32) × (Nat → Int32)) => zH (zb (zb (zb (zb (zb v 68 (upd (upd (upd (v 68) 0 0) 11 0) 26 s.2.1)) 76 s.1) 80 s.2.2.1) 81 s.2.2.2.1) 82 s.2.2.2.2) w t) (fun r q => (some (.int r.1), zH (zb (zb (zb (zb (zb v 68 (upd (upd (upd (v 68) 0 0) 11 0) 26 r.2.2.1)) 76 r.2.1) 80 r.2.2.2.1) 81 r.2.2.2.2.1) 82 r.2.2.2.2.2) w t) = q) (61) 0 s (fun j s s' hj1 hj2 hp hg => by
    obtain ⟨row, ou, lt, lw, oo⟩ := s
    have hp : zk_lie Gn row := hp
    unfold zl_mlostInG at hg
    dsimp only at hg
    split at hg
    · first | (cases hg; done) | (cases hg; exact zr_myear_lie h4 hp)
    · first | (cases hg; done) | (cases hg; exact zr_myear_lie h4 hp)) (fun j s hj1 hj2 hp q hk => ?_) (fun s hp q hk => ?_) ?_ q hk
  · obtain ⟨row, ou, lt, lw, oo⟩ := s
    show zk_T zk_mt zk_ex Ls xs zm_226 (24, [(0, .ref 69), (1, .int (nI a)), (2, .int (nI j))], []) (zH (zb (zb (zb (zb (zb v 68 (upd (upd (upd (v 68) 0 0) 11 0) 26 ou)) 76 row) 80 lt) 81 lw) 82 oo) w t) q
    have hp : zk_lie Gn row := hp
    refine zk_T.adv 2 (f' := (27, [(0, .ref 69), (1, .int (nI a)), (2, .int (nI j))], [.int 60, .int (nI j)])) (h' := zH (zb (zb (zb (zb (zb v 68 (upd (upd (upd (v 68) 0 0) 11 0) 26 ou)) 76 row) 80 lt) 81 lw) 82 oo) w t) rfl ?_
    refine zk_T.br (f1 := (60, [(0, .ref 69), (1, .int (nI a)), (2, .int (nI j))], [])) (f2 := (30, [(0, .ref 69), (1, .int (nI a)), (2, .int (nI j))], [])) rfl (fun c1 => absurd (of_decide_eq_true c1) (nI_nlt (a := 60) (b := j) (by omega) (by decide))) (fun c1 => ?_)
    refine zk_T.adv 3 (f' := (36, [(0, .ref 69), (1, .int (nI a)), (2, .int (nI j))], [.int 14, .ref 77])) (h' := zH (zb (zb (zb (zb (zb v 68 (upd (upd (upd (v 68) 0 0) 11 0) 26 ou)) 76 row) 80 lt) 81 lw) 82 oo) w t) rfl ?_
    refine zk_T.ob (f' := (37, [(0, .ref 69), (1, .int (nI a)), (2, .int (nI j))], [.int (row (14 : Int32).toNatClampNeg)])) (h' := zH (zb (zb (zb (zb (zb v 68 (upd (upd (upd (v 68) 0 0) 11 0) 26 ou)) 76 row) 80 lt) 81 lw) 82 oo) w t) rfl rfl ?_
    show zk_T zk_mt zk_ex Ls xs zm_226 (37, [(0, .ref 69), (1, .int (nI a)), (2, .int (nI j))], [.int (row 14)]) (zH (zb (zb (zb (zb (zb v 68 (upd (upd (upd (v 68) 0 0) 11 0) 26 ou)) 76 row) 80 lt) 81 lw) 82 oo) w t) _
    refine zk_T.adv 1 (f' := (38, [(0, .ref 69), (1, .int (nI a)), (2, .int (nI j))], [.int (nI a), .int (row 14)])) (h' := zH (zb (zb (zb (zb (zb v 68 (upd (upd (upd (v 68) 0 0) 11 0) 26 ou)) 76 row) 80 lt) 81 lw) 82 oo) w t) rfl ?_
    refine zk_T.cl (v := some (.int (zr_mhasBit (row 14) (nI a)))) (h' := zH (zb (zb (zb (zb (zb v 68 (upd (upd (upd (v 68) 0 0) 11 0) 26 ou)) 76 row) 80 lt) 81 lw) 82 oo) w t) rfl (zs_mhasBit (row 14) (nI a)) ?_
    show zk_T zk_mt zk_ex Ls xs zm_226 (41, [(0, .ref 69), (1, .int (nI a)), (2, .int (nI j))], [.int (zr_mhasBit (row 14) (nI a))]) (zH (zb (zb (zb (zb (zb v 68 (upd (upd (upd (v 68) 0 0) 11 0) 26 ou)) 76 row) 80 lt) 81 lw) 82 oo) w t) _
    refine zk_T.br (f1 := (46, [(0, .ref 69), (1, .int (nI a)), (2, .int (nI j))], [])) (f2 := (44, [(0, .ref 69), (1, .int (nI a)), (2, .int (nI j))], [])) rfl (fun c2 => ?_) (fun c2 => ?_)
    · have c2 : (zr_mhasBit (row 14) (nI a)) = 0 := of_decide_eq_true c2
      refine zk_T.adv 3 (f' := (51, [(0, .ref 69), (1, .int (nI a)), (2, .int (nI j))], [.ref 77, .ref 69])) (h' := zH (zb (zb (zb (zb (zb v 68 (upd (upd (upd (v 68) 0 0) 11 0) 26 ou)) 76 row) 80 lt) 81 lw) 82 oo) w t) rfl ?_
      refine zk_T.cl (v := none) (h' := zH (zb (zb (zb (zb (zb v 68 (upd (upd (upd (v 68) 0 0) 11 0) 26 ((zr_myear D Gn (v 71) row (v 79) ou lt lw oo).2.1))) 76 ((zr_myear D Gn (v 71) row (v 79) ou lt lw oo).1)) 80 ((zr_myear D Gn (v 71) row (v 79) ou lt lw oo).2.2.1)) 81 ((zr_myear D Gn (v 71) row (v 79) ou lt lw oo).2.2.2.1)) 82 ((zr_myear D Gn (v 71) row (v 79) ou lt lw oo).2.2.2.2)) w t) rfl (zs_myearOnT (v := (zb (zb (zb (zb (zb v 68 (upd (upd (upd (v 68) 0 0) 11 0) 26 ou)) 76 row) 80 lt) 81 lw) 82 oo)) D hD h8 Gn hG h4 hev hp) ?_
      show zk_T zk_mt zk_ex Ls xs zm_226 (54, [(0, .ref 69), (1, .int (nI a)), (2, .int (nI j))], []) (zH (zb (zb (zb (zb (zb v 68 (upd (upd (upd (v 68) 0 0) 11 0) 26 ((zr_myear D Gn (v 71) row (v 79) ou lt lw oo).2.1))) 76 ((zr_myear D Gn (v 71) row (v 79) ou lt lw oo).1)) 80 ((zr_myear D Gn (v 71) row (v 79) ou lt lw oo).2.2.1)) 81 ((zr_myear D Gn (v 71) row (v 79) ou lt lw oo).2.2.2.1)) 82 ((zr_myear D Gn (v 71) row (v 79) ou lt lw oo).2.2.2.2)) w t) _
      refine zk_T.adv 2 (f' := (24, [(0, .ref 69), (1, .int (nI a)), (2, .int ((nI j) + 1))], [])) (h' := zH (zb (zb (zb (zb (zb v 68 (upd (upd (upd (v 68) 0 0) 11 0) 26 ((zr_myear D Gn (v 71) row (v 79) ou lt lw oo).2.1))) 76 ((zr_myear D Gn (v 71) row (v 79) ou lt lw oo).1)) 80 ((zr_myear D Gn (v 71) row (v 79) ou lt lw oo).2.2.1)) 81 ((zr_myear D Gn (v 71) row (v 79) ou lt lw oo).2.2.2.1)) 82 ((zr_myear D Gn (v 71) row (v 79) ou lt lw oo).2.2.2.2)) w t) rfl ?_
      rw [nI_1]
      simp only [zl_mlostInG, zk_or, if_pos c2] at hk
      exact hk
    · have c2 : ¬ ((zr_mhasBit (row 14) (nI a)) = 0) := of_decide_eq_false c2
      refine zk_T.adv 1 (f' := (45, [(0, .ref 69), (1, .int (nI a)), (2, .int (nI j))], [.int (nI j)])) (h' := zH (zb (zb (zb (zb (zb v 68 (upd (upd (upd (v 68) 0 0) 11 0) 26 ou)) 76 row) 80 lt) 81 lw) 82 oo) w t) rfl ?_
      simp only [zl_mlostInG, zk_or, if_neg c2] at hk
      exact zk_T.rt rfl rfl hk
  · obtain ⟨row, ou, lt, lw, oo⟩ := s
    show zk_T zk_mt zk_ex Ls xs zm_226 (24, [(0, .ref 69), (1, .int (nI a)), (2, .int (nI (0 + 61)))], []) (zH (zb (zb (zb (zb (zb v 68 (upd (upd (upd (v 68) 0 0) 11 0) 26 ou)) 76 row) 80 lt) 81 lw) 82 oo) w t) q
    have hp : zk_lie Gn row := hp
    refine zk_T.adv 2 (f' := (27, [(0, .ref 69), (1, .int (nI a)), (2, .int (nI (0 + 61)))], [.int 60, .int (nI (0 + 61))])) (h' := zH (zb (zb (zb (zb (zb v 68 (upd (upd (upd (v 68) 0 0) 11 0) 26 ou)) 76 row) 80 lt) 81 lw) 82 oo) w t) rfl ?_
    refine zk_T.br (f1 := (60, [(0, .ref 69), (1, .int (nI a)), (2, .int (nI (0 + 61)))], [])) (f2 := (30, [(0, .ref 69), (1, .int (nI a)), (2, .int (nI (0 + 61)))], [])) rfl (fun c1 => ?_) (fun c1 => absurd (show (60 : Int32) < nI (0 + 61) from by decide) (of_decide_eq_false c1))
    exact hk
  · exact hP0
def zr_mlostIn (a D Gn : Nat) (rr st row lt lw oo slp : Nat → Int32) : Int32 × (Nat → Int32) × Int32 × (Nat → Int32) × (Nat → Int32) × (Nat → Int32) × (Nat → Int32) × Int32 × Int32 := match zfr (zl_mlostInG D Gn (rr) ((zr_mbegin (st) (row) (lt) (lw) (oo) (slp)).2.2.2.2.2) a) 61 0 ((zr_mbegin (st) (row) (lt) (lw) (oo) (slp)).1, (zr_mbegin (st) (row) (lt) (lw) (oo) (slp)).2.1, (zr_mbegin (st) (row) (lt) (lw) (oo) (slp)).2.2.1, (zr_mbegin (st) (row) (lt) (lw) (oo) (slp)).2.2.2.1, (zr_mbegin (st) (row) (lt) (lw) (oo) (slp)).2.2.2.2.1) with | .inl s => ((-2), s.1, s.2.1, s.2.2.1, s.2.2.2.1, s.2.2.2.2, (zr_mbegin (st) (row) (lt) (lw) (oo) (slp)).2.2.2.2.2, 0, 0) | .inr r => (r.1, r.2.1, r.2.2.1, r.2.2.2.1, r.2.2.2.2.1, r.2.2.2.2.2, (zr_mbegin (st) (row) (lt) (lw) (oo) (slp)).2.2.2.2.2, 0, 0)
/-- BasketKeepModel.lostIn -/
theorem zM_lostIn_f (a : Nat) (ha : a < 4) (hg : zr_misX (v 68 14) (v 71 3) (nI a) = 1) (D : Nat) (hD : v 71 1 = nI D) (h8 : D ≤ 8) (Gn : Nat) (hG : v 71 3 = nI Gn) (h4 : Gn ≤ 4) (hev : ∀ d, d < D → ¬ v 71 (7 + 2 * d) = 0) (hli : zk_lie Gn (v 75)) : zk_Cr zk_mt zk_ex Ls xs 226 [.ref 69, .int (nI a)] (zH v w t) (some (.int (zr_mlostIn a D Gn (v 71) (v 75) (v 76) (v 80) (v 81) (v 82) (v 79)).1), zH (zb (zb (zb (zb (zb (zb v 68 (upd (upd (upd (v 68) 0 ((zr_mlostIn a D Gn (v 71) (v 75) (v 76) (v 80) (v 81) (v 82) (v 79)).2.2.2.2.2.2.2.1)) 11 ((zr_mlostIn a D Gn (v 71) (v 75) (v 76) (v 80) (v 81) (v 82) (v 79)).2.2.2.2.2.2.2.2)) 26 ((zr_mlostIn a D Gn (v 71) (v 75) (v 76) (v 80) (v 81) (v 82) (v 79)).2.2.1))) 76 ((zr_mlostIn a D Gn (v 71) (v 75) (v 76) (v 80) (v 81) (v 82) (v 79)).2.1)) 79 ((zr_mlostIn a D Gn (v 71) (v 75) (v 76) (v 80) (v 81) (v 82) (v 79)).2.2.2.2.2.2.1)) 80 ((zr_mlostIn a D Gn (v 71) (v 75) (v 76) (v 80) (v 81) (v 82) (v 79)).2.2.2.1)) 81 ((zr_mlostIn a D Gn (v 71) (v 75) (v 76) (v 80) (v 81) (v 82) (v 79)).2.2.2.2.1)) 82 ((zr_mlostIn a D Gn (v 71) (v 75) (v 76) (v 80) (v 81) (v 82) (v 79)).2.2.2.2.2.1)) w t) := by
  refine zk_Cr.of (K := zm_226) rfl rfl rfl ?_
  show zk_T zk_mt zk_ex Ls xs zm_226 (0, [(0, .ref 69), (1, .int (nI a))], []) (zH v w t) _
  refine zk_T.adv 1 (f' := (1, [(0, .ref 69), (1, .int (nI a))], [.ref 69])) (h' := zH v w t) rfl ?_
  refine zk_T.cl (v := none) (h' := zH (zb v 68 (upd (upd (v 68) 0 0) 11 0)) w t) rfl (zs_manew (v := v) (w := w)) ?_
  show zk_T zk_mt zk_ex Ls xs zm_226 (4, [(0, .ref 69), (1, .int (nI a))], []) (zH (zb v 68 (upd (upd (v 68) 0 0) 11 0)) w t) _
  refine zk_T.adv 2 (f' := (6, [(0, .ref 69), (1, .int (nI a))], [.int (nI a), .ref 69])) (h' := zH (zb v 68 (upd (upd (v 68) 0 0) 11 0)) w t) rfl ?_
  refine zk_T.cl (v := some (.int 1)) (h' := zH (zb v 68 (upd (upd (v 68) 0 0) 11 0)) w t) rfl (by have ee_ : zk_Cr zk_mt zk_ex Ls xs 117 [.ref 69, .int (nI a)] (zH (zb v 68 (upd (upd (v 68) 0 0) 11 0)) w t) (some (.int (zr_misX (v 68 14) (v 71 3) (nI a))), zH (zb v 68 (upd (upd (v 68) 0 0) 11 0)) w t) := zs_misGood (v := (zb v 68 (upd (upd (v 68) 0 0) 11 0))) (w := w) (nI a); rw [show (zr_misX (v 68 14) (v 71 3) (nI a)) = 1 from hg] at ee_; exact ee_) ?_
  show zk_T zk_mt zk_ex Ls xs zm_226 (9, [(0, .ref 69), (1, .int (nI a))], [.int 1]) (zH (zb v 68 (upd (upd (v 68) 0 0) 11 0)) w t) _
  refine zk_T.br (f1 := (12, [(0, .ref 69), (1, .int (nI a))], [])) (f2 := (18, [(0, .ref 69), (1, .int (nI a))], [])) rfl (fun c1 => absurd (of_decide_eq_true c1) (by decide)) (fun c1 => ?_)
  refine zk_T.adv 1 (f' := (19, [(0, .ref 69), (1, .int (nI a))], [.ref 69])) (h' := zH (zb v 68 (upd (upd (v 68) 0 0) 11 0)) w t) rfl ?_
  refine zk_T.cl (v := none) (h' := zH (zb (zb (zb (zb (zb (zb v 68 (upd (upd (upd (v 68) 0 0) 11 0) 26 ((zr_mbegin (v 75) (v 76) (v 80) (v 81) (v 82) (v 79)).2.1))) 76 ((zr_mbegin (v 75) (v 76) (v 80) (v 81) (v 82) (v 79)).1)) 79 ((zr_mbegin (v 75) (v 76) (v 80) (v 81) (v 82) (v 79)).2.2.2.2.2)) 80 ((zr_mbegin (v 75) (v 76) (v 80) (v 81) (v 82) (v 79)).2.2.1)) 81 ((zr_mbegin (v 75) (v 76) (v 80) (v 81) (v 82) (v 79)).2.2.2.1)) 82 ((zr_mbegin (v 75) (v 76) (v 80) (v 81) (v 82) (v 79)).2.2.2.2.1)) w t) rfl (zs_mbegin (v := (zb v 68 (upd (upd (v 68) 0 0) 11 0))) (w := w)) ?_
  show zk_T zk_mt zk_ex Ls xs zm_226 (22, [(0, .ref 69), (1, .int (nI a))], []) (zH (zb (zb (zb (zb (zb (zb v 68 (upd (upd (upd (v 68) 0 0) 11 0) 26 ((zr_mbegin (v 75) (v 76) (v 80) (v 81) (v 82) (v 79)).2.1))) 76 ((zr_mbegin (v 75) (v 76) (v 80) (v 81) (v 82) (v 79)).1)) 79 ((zr_mbegin (v 75) (v 76) (v 80) (v 81) (v 82) (v 79)).2.2.2.2.2)) 80 ((zr_mbegin (v 75) (v 76) (v 80) (v 81) (v 82) (v 79)).2.2.1)) 81 ((zr_mbegin (v 75) (v 76) (v 80) (v 81) (v 82) (v 79)).2.2.2.1)) 82 ((zr_mbegin (v 75) (v 76) (v 80) (v 81) (v 82) (v 79)).2.2.2.2.1)) w t) _
  refine zk_T.adv 2 (f' := (24, [(0, .ref 69), (1, .int (nI a)), (2, .int 0)], [])) (h' := zH (zb (zb (zb (zb (zb (zb v 68 (upd (upd (upd (v 68) 0 0) 11 0) 26 ((zr_mbegin (v 75) (v 76) (v 80) (v 81) (v 82) (v 79)).2.1))) 76 ((zr_mbegin (v 75) (v 76) (v 80) (v 81) (v 82) (v 79)).1)) 79 ((zr_mbegin (v 75) (v 76) (v 80) (v 81) (v 82) (v 79)).2.2.2.2.2)) 80 ((zr_mbegin (v 75) (v 76) (v 80) (v 81) (v 82) (v 79)).2.2.1)) 81 ((zr_mbegin (v 75) (v 76) (v 80) (v 81) (v 82) (v 79)).2.2.2.1)) 82 ((zr_mbegin (v 75) (v 76) (v 80) (v 81) (v 82) (v 79)).2.2.2.2.1)) w t) rfl ?_
  refine zl_mlostIn (v := (zb (zb (zb (zb (zb (zb v 68 (upd (upd (upd (v 68) 0 0) 11 0) 26 ((zr_mbegin (v 75) (v 76) (v 80) (v 81) (v 82) (v 79)).2.1))) 76 ((zr_mbegin (v 75) (v 76) (v 80) (v 81) (v 82) (v 79)).1)) 79 ((zr_mbegin (v 75) (v 76) (v 80) (v 81) (v 82) (v 79)).2.2.2.2.2)) 80 ((zr_mbegin (v 75) (v 76) (v 80) (v 81) (v 82) (v 79)).2.2.1)) 81 ((zr_mbegin (v 75) (v 76) (v 80) (v 81) (v 82) (v 79)).2.2.2.1)) 82 ((zr_mbegin (v 75) (v 76) (v 80) (v 81) (v 82) (v 79)).2.2.2.2.1))) (w := w) (t := t) a ha D hD h8 Gn hG h4 hev ((zr_mbegin (v 75) (v 76) (v 80) (v 81) (v 82) (v 79)).1, (zr_mbegin (v 75) (v 76) (v 80) (v 81) (v 82) (v 79)).2.1, (zr_mbegin (v 75) (v 76) (v 80) (v 81) (v 82) (v 79)).2.2.1, (zr_mbegin (v 75) (v 76) (v 80) (v 81) (v 82) (v 79)).2.2.2.1, (zr_mbegin (v 75) (v 76) (v 80) (v 81) (v 82) (v 79)).2.2.2.2.1) _ (zr_mbegin_lie (row := v 76) (lt := v 80) (lw := v 81) (oo := v 82) (slp := v 79) hli h4) ?_
  show zk_or _ _ (zfr (zl_mlostInG D Gn (v 71) ((zr_mbegin (v 75) (v 76) (v 80) (v 81) (v 82) (v 79)).2.2.2.2.2) a) 61 0 ((zr_mbegin (v 75) (v 76) (v 80) (v 81) (v 82) (v 79)).1, (zr_mbegin (v 75) (v 76) (v 80) (v 81) (v 82) (v 79)).2.1, (zr_mbegin (v 75) (v 76) (v 80) (v 81) (v 82) (v 79)).2.2.1, (zr_mbegin (v 75) (v 76) (v 80) (v 81) (v 82) (v 79)).2.2.2.1, (zr_mbegin (v 75) (v 76) (v 80) (v 81) (v 82) (v 79)).2.2.2.2.1))
  cases z2 : zfr (zl_mlostInG D Gn (v 71) ((zr_mbegin (v 75) (v 76) (v 80) (v 81) (v 82) (v 79)).2.2.2.2.2) a) 61 0 ((zr_mbegin (v 75) (v 76) (v 80) (v 81) (v 82) (v 79)).1, (zr_mbegin (v 75) (v 76) (v 80) (v 81) (v 82) (v 79)).2.1, (zr_mbegin (v 75) (v 76) (v 80) (v 81) (v 82) (v 79)).2.2.1, (zr_mbegin (v 75) (v 76) (v 80) (v 81) (v 82) (v 79)).2.2.2.1, (zr_mbegin (v 75) (v 76) (v 80) (v 81) (v 82) (v 79)).2.2.2.2.1) with
  | inl s =>
    show zk_T zk_mt zk_ex Ls xs zm_226 (60, [(0, .ref 69), (1, .int (nI a)), (2, .int (nI (0 + 61)))], []) (zH (zb (zb (zb (zb (zb (zb v 68 (upd (upd (upd (v 68) 0 0) 11 0) 26 s.2.1)) 76 s.1) 79 ((zr_mbegin (v 75) (v 76) (v 80) (v 81) (v 82) (v 79)).2.2.2.2.2)) 80 s.2.2.1) 81 s.2.2.2.1) 82 s.2.2.2.2) w t) _
    refine zk_T.adv 1 (f' := (62, [(0, .ref 69), (1, .int (nI a)), (2, .int (nI (0 + 61)))], [.int (-2)])) (h' := zH (zb (zb (zb (zb (zb (zb v 68 (upd (upd (upd (v 68) 0 0) 11 0) 26 s.2.1)) 76 s.1) 79 ((zr_mbegin (v 75) (v 76) (v 80) (v 81) (v 82) (v 79)).2.2.2.2.2)) 80 s.2.2.1) 81 s.2.2.2.1) 82 s.2.2.2.2) w t) rfl ?_
    exact zk_T.rt rfl rfl (by simp only [zr_mlostIn, z2] <;> rfl)
  | inr r =>
    simp only [zk_or]
    simp only [zr_mlostIn, z2] <;> rfl
def zl_mwornInG (D Gn : Nat) (rr slp : Nat → Int32) (e : Nat) (j : Nat) (s : (Nat → Int32) × Int32 × (Nat → Int32) × (Nat → Int32) × (Nat → Int32)) : ((Nat → Int32) × Int32 × (Nat → Int32) × (Nat → Int32) × (Nat → Int32)) ⊕ Int32 × (Nat → Int32) × Int32 × (Nat → Int32) × (Nat → Int32) × (Nat → Int32) := match s with
  | (row, ou, lt, lw, oo) => if (row e) = 0 then .inr (nI j, row, ou, lt, lw, oo) else .inl ((zr_myear D Gn (rr) row (slp) ou lt lw oo).1, (zr_myear D Gn (rr) row (slp) ou lt lw oo).2.1, (zr_myear D Gn (rr) row (slp) ou lt lw oo).2.2.1, (zr_myear D Gn (rr) row (slp) ou lt lw oo).2.2.2.1, (zr_myear D Gn (rr) row (slp) ou lt lw oo).2.2.2.2)
theorem zl_mwornIn (e : Nat) (he : e < 5) (D : Nat) (hD : v 71 1 = nI D) (h8 : D ≤ 8) (Gn : Nat) (hG : v 71 3 = nI Gn) (h4 : Gn ≤ 4) (hev : ∀ d, d < D → ¬ v 71 (7 + 2 * d) = 0) : ∀ (s : (Nat → Int32) × Int32 × (Nat → Int32) × (Nat → Int32) × (Nat → Int32)) (q : Option Value × zk_H), zk_lie Gn s.1 → zk_or (fun (s : (Nat → Int32) × Int32 × (Nat → Int32) × (Nat → Int32) × (Nat → Int32)) => zk_T zk_mt zk_ex Ls xs zm_227 (55, [(0, .ref 69), (1, .int (nI e)), (2, .int (nI (0 + 61)))], []) (zH (zb (zb (zb (zb (zb v 68 (upd (upd (upd (v 68) 0 0) 11 0) 26 s.2.1)) 76 s.1) 80 s.2.2.1) 81 s.2.2.2.1) 82 s.2.2.2.2) w t) q) (fun (r : Int32 × (Nat → Int32) × Int32 × (Nat → Int32) × (Nat → Int32) × (Nat → Int32)) => (some (.int r.1), zH (zb (zb (zb (zb (zb v 68 (upd (upd (upd (v 68) 0 0) 11 0) 26 r.2.2.1)) 76 r.2.1) 80 r.2.2.2.1) 81 r.2.2.2.2.1) 82 r.2.2.2.2.2) w t) = q) (zfr (zl_mwornInG D Gn (v 71) (v 79) e) 61 0 s) → zk_T zk_mt zk_ex Ls xs zm_227 (24, [(0, .ref 69), (1, .int (nI e)), (2, .int (nI 0))], []) (zH (zb (zb (zb (zb (zb v 68 (upd (upd (upd (v 68) 0 0) 11 0) 26 s.2.1)) 76 s.1) 80 s.2.2.1) 81 s.2.2.2.1) 82 s.2.2.2.2) w t) q := by
  intro s q hP0 hk
  refine zk_forX (M := zm_227) (fun j (s : (Nat → Int32) × Int32 × (Nat → Int32) × (Nat → Int32) × (Nat → Int32)) => (24, [(0, .ref 69), (1, .int (nI e)), (2, .int (nI j))], [])) (fun _ (s : (Nat → Int32) × Int32 × (Nat → Int32) × (Nat → Int32) × (Nat → Int32)) => zH (zb (zb (zb (zb (zb v 68 (upd (upd (upd (v 68) 0 0) 11 0) 26 s.2.1)) 76 s.1) 80 s.2.2.1) 81 s.2.2.2.1) 82 s.2.2.2.2) w t) (zl_mwornInG D Gn (v 71) (v 79) e) (fun j (s : (Nat → Int32) × Int32 × (Nat → Int32) × (Nat → Int32) × (Nat → Int32)) => zk_lie Gn s.1) (fun (s : (Nat → Int32) × Int32 × (Nat → Int32) × (Nat → Int32) × (Nat → Int32)) => (55, [(0, .ref 69), (1, .int (nI e)), (2, .int (nI (0 + 61)))], [])) (fun (s : (Nat → Int32) × Int32 × (Nat → Int32) × (Nat → Int32) × (Nat → Int32)) => zH (zb (zb (zb (zb (zb v 68 (upd (upd (upd (v 68) 0 0) 11 0) 26 s.2.1)) 76 s.1) 80 s.2.2.1) 81 s.2.2.2.1) 82 s.2.2.2.2) w t) (fun r q => (some (.int r.1), zH (zb (zb (zb (zb (zb v 68 (upd (upd (upd (v 68) 0 0) 11 0) 26 r.2.2.1)) 76 r.2.1) 80 r.2.2.2.1) 81 r.2.2.2.2.1) 82 r.2.2.2.2.2) w t) = q) (61) 0 s (fun j s s' hj1 hj2 hp hg => by
    obtain ⟨row, ou, lt, lw, oo⟩ := s
    have hp : zk_lie Gn row := hp
    unfold zl_mwornInG at hg
    dsimp only at hg
    split at hg
    · first | (cases hg; done) | (cases hg; exact zr_myear_lie h4 hp)
    · first | (cases hg; done) | (cases hg; exact zr_myear_lie h4 hp)) (fun j s hj1 hj2 hp q hk => ?_) (fun s hp q hk => ?_) ?_ q hk
  · obtain ⟨row, ou, lt, lw, oo⟩ := s
    show zk_T zk_mt zk_ex Ls xs zm_227 (24, [(0, .ref 69), (1, .int (nI e)), (2, .int (nI j))], []) (zH (zb (zb (zb (zb (zb v 68 (upd (upd (upd (v 68) 0 0) 11 0) 26 ou)) 76 row) 80 lt) 81 lw) 82 oo) w t) q
    have hp : zk_lie Gn row := hp
    refine zk_T.adv 2 (f' := (27, [(0, .ref 69), (1, .int (nI e)), (2, .int (nI j))], [.int 60, .int (nI j)])) (h' := zH (zb (zb (zb (zb (zb v 68 (upd (upd (upd (v 68) 0 0) 11 0) 26 ou)) 76 row) 80 lt) 81 lw) 82 oo) w t) rfl ?_
    refine zk_T.br (f1 := (55, [(0, .ref 69), (1, .int (nI e)), (2, .int (nI j))], [])) (f2 := (30, [(0, .ref 69), (1, .int (nI e)), (2, .int (nI j))], [])) rfl (fun c1 => absurd (of_decide_eq_true c1) (nI_nlt (a := 60) (b := j) (by omega) (by decide))) (fun c1 => ?_)
    refine zk_T.adv 3 (f' := (35, [(0, .ref 69), (1, .int (nI e)), (2, .int (nI j))], [.int (nI e), .ref 77])) (h' := zH (zb (zb (zb (zb (zb v 68 (upd (upd (upd (v 68) 0 0) 11 0) 26 ou)) 76 row) 80 lt) 81 lw) 82 oo) w t) rfl ?_
    refine zk_T.ob (f' := (36, [(0, .ref 69), (1, .int (nI e)), (2, .int (nI j))], [.int (row (nI e).toNatClampNeg)])) (h' := zH (zb (zb (zb (zb (zb v 68 (upd (upd (upd (v 68) 0 0) 11 0) 26 ou)) 76 row) 80 lt) 81 lw) 82 oo) w t) rfl (by first | exact zk_inN (by omega) (by decide) | decide) ?_
    rw [nI_clamp (show e < 2 ^ 31 by omega)]
    refine zk_T.br (f1 := (39, [(0, .ref 69), (1, .int (nI e)), (2, .int (nI j))], [])) (f2 := (41, [(0, .ref 69), (1, .int (nI e)), (2, .int (nI j))], [])) rfl (fun c2 => ?_) (fun c2 => ?_)
    · have c2 : (row e) = 0 := of_decide_eq_true c2
      refine zk_T.adv 1 (f' := (40, [(0, .ref 69), (1, .int (nI e)), (2, .int (nI j))], [.int (nI j)])) (h' := zH (zb (zb (zb (zb (zb v 68 (upd (upd (upd (v 68) 0 0) 11 0) 26 ou)) 76 row) 80 lt) 81 lw) 82 oo) w t) rfl ?_
      simp only [zl_mwornInG, zk_or, if_pos c2] at hk
      exact zk_T.rt rfl rfl hk
    · have c2 : ¬ ((row e) = 0) := of_decide_eq_false c2
      refine zk_T.adv 3 (f' := (46, [(0, .ref 69), (1, .int (nI e)), (2, .int (nI j))], [.ref 77, .ref 69])) (h' := zH (zb (zb (zb (zb (zb v 68 (upd (upd (upd (v 68) 0 0) 11 0) 26 ou)) 76 row) 80 lt) 81 lw) 82 oo) w t) rfl ?_
      refine zk_T.cl (v := none) (h' := zH (zb (zb (zb (zb (zb v 68 (upd (upd (upd (v 68) 0 0) 11 0) 26 ((zr_myear D Gn (v 71) row (v 79) ou lt lw oo).2.1))) 76 ((zr_myear D Gn (v 71) row (v 79) ou lt lw oo).1)) 80 ((zr_myear D Gn (v 71) row (v 79) ou lt lw oo).2.2.1)) 81 ((zr_myear D Gn (v 71) row (v 79) ou lt lw oo).2.2.2.1)) 82 ((zr_myear D Gn (v 71) row (v 79) ou lt lw oo).2.2.2.2)) w t) rfl (zs_myearOnT (v := (zb (zb (zb (zb (zb v 68 (upd (upd (upd (v 68) 0 0) 11 0) 26 ou)) 76 row) 80 lt) 81 lw) 82 oo)) D hD h8 Gn hG h4 hev hp) ?_
      show zk_T zk_mt zk_ex Ls xs zm_227 (49, [(0, .ref 69), (1, .int (nI e)), (2, .int (nI j))], []) (zH (zb (zb (zb (zb (zb v 68 (upd (upd (upd (v 68) 0 0) 11 0) 26 ((zr_myear D Gn (v 71) row (v 79) ou lt lw oo).2.1))) 76 ((zr_myear D Gn (v 71) row (v 79) ou lt lw oo).1)) 80 ((zr_myear D Gn (v 71) row (v 79) ou lt lw oo).2.2.1)) 81 ((zr_myear D Gn (v 71) row (v 79) ou lt lw oo).2.2.2.1)) 82 ((zr_myear D Gn (v 71) row (v 79) ou lt lw oo).2.2.2.2)) w t) _
      refine zk_T.adv 2 (f' := (24, [(0, .ref 69), (1, .int (nI e)), (2, .int ((nI j) + 1))], [])) (h' := zH (zb (zb (zb (zb (zb v 68 (upd (upd (upd (v 68) 0 0) 11 0) 26 ((zr_myear D Gn (v 71) row (v 79) ou lt lw oo).2.1))) 76 ((zr_myear D Gn (v 71) row (v 79) ou lt lw oo).1)) 80 ((zr_myear D Gn (v 71) row (v 79) ou lt lw oo).2.2.1)) 81 ((zr_myear D Gn (v 71) row (v 79) ou lt lw oo).2.2.2.1)) 82 ((zr_myear D Gn (v 71) row (v 79) ou lt lw oo).2.2.2.2)) w t) rfl ?_
      rw [nI_1]
      simp only [zl_mwornInG, zk_or, if_neg c2] at hk
      exact hk
  · obtain ⟨row, ou, lt, lw, oo⟩ := s
    show zk_T zk_mt zk_ex Ls xs zm_227 (24, [(0, .ref 69), (1, .int (nI e)), (2, .int (nI (0 + 61)))], []) (zH (zb (zb (zb (zb (zb v 68 (upd (upd (upd (v 68) 0 0) 11 0) 26 ou)) 76 row) 80 lt) 81 lw) 82 oo) w t) q
    have hp : zk_lie Gn row := hp
    refine zk_T.adv 2 (f' := (27, [(0, .ref 69), (1, .int (nI e)), (2, .int (nI (0 + 61)))], [.int 60, .int (nI (0 + 61))])) (h' := zH (zb (zb (zb (zb (zb v 68 (upd (upd (upd (v 68) 0 0) 11 0) 26 ou)) 76 row) 80 lt) 81 lw) 82 oo) w t) rfl ?_
    refine zk_T.br (f1 := (55, [(0, .ref 69), (1, .int (nI e)), (2, .int (nI (0 + 61)))], [])) (f2 := (30, [(0, .ref 69), (1, .int (nI e)), (2, .int (nI (0 + 61)))], [])) rfl (fun c1 => ?_) (fun c1 => absurd (show (60 : Int32) < nI (0 + 61) from by decide) (of_decide_eq_false c1))
    exact hk
  · exact hP0
def zr_mwornIn (e D Gn : Nat) (rr st row lt lw oo slp : Nat → Int32) : Int32 × (Nat → Int32) × Int32 × (Nat → Int32) × (Nat → Int32) × (Nat → Int32) × (Nat → Int32) × Int32 × Int32 := match zfr (zl_mwornInG D Gn (rr) ((zr_mbegin (st) (row) (lt) (lw) (oo) (slp)).2.2.2.2.2) e) 61 0 ((zr_mbegin (st) (row) (lt) (lw) (oo) (slp)).1, (zr_mbegin (st) (row) (lt) (lw) (oo) (slp)).2.1, (zr_mbegin (st) (row) (lt) (lw) (oo) (slp)).2.2.1, (zr_mbegin (st) (row) (lt) (lw) (oo) (slp)).2.2.2.1, (zr_mbegin (st) (row) (lt) (lw) (oo) (slp)).2.2.2.2.1) with | .inl s => ((-2), s.1, s.2.1, s.2.2.1, s.2.2.2.1, s.2.2.2.2, (zr_mbegin (st) (row) (lt) (lw) (oo) (slp)).2.2.2.2.2, 0, 0) | .inr r => (r.1, r.2.1, r.2.2.1, r.2.2.2.1, r.2.2.2.2.1, r.2.2.2.2.2, (zr_mbegin (st) (row) (lt) (lw) (oo) (slp)).2.2.2.2.2, 0, 0)
/-- BasketKeepModel.wornIn -/
theorem zM_wornIn_f (e : Nat) (he : e < 5) (hg : zr_misX (v 68 14) (v 71 2) (nI e) = 1) (D : Nat) (hD : v 71 1 = nI D) (h8 : D ≤ 8) (Gn : Nat) (hG : v 71 3 = nI Gn) (h4 : Gn ≤ 4) (hev : ∀ d, d < D → ¬ v 71 (7 + 2 * d) = 0) (hli : zk_lie Gn (v 75)) : zk_Cr zk_mt zk_ex Ls xs 227 [.ref 69, .int (nI e)] (zH v w t) (some (.int (zr_mwornIn e D Gn (v 71) (v 75) (v 76) (v 80) (v 81) (v 82) (v 79)).1), zH (zb (zb (zb (zb (zb (zb v 68 (upd (upd (upd (v 68) 0 ((zr_mwornIn e D Gn (v 71) (v 75) (v 76) (v 80) (v 81) (v 82) (v 79)).2.2.2.2.2.2.2.1)) 11 ((zr_mwornIn e D Gn (v 71) (v 75) (v 76) (v 80) (v 81) (v 82) (v 79)).2.2.2.2.2.2.2.2)) 26 ((zr_mwornIn e D Gn (v 71) (v 75) (v 76) (v 80) (v 81) (v 82) (v 79)).2.2.1))) 76 ((zr_mwornIn e D Gn (v 71) (v 75) (v 76) (v 80) (v 81) (v 82) (v 79)).2.1)) 79 ((zr_mwornIn e D Gn (v 71) (v 75) (v 76) (v 80) (v 81) (v 82) (v 79)).2.2.2.2.2.2.1)) 80 ((zr_mwornIn e D Gn (v 71) (v 75) (v 76) (v 80) (v 81) (v 82) (v 79)).2.2.2.1)) 81 ((zr_mwornIn e D Gn (v 71) (v 75) (v 76) (v 80) (v 81) (v 82) (v 79)).2.2.2.2.1)) 82 ((zr_mwornIn e D Gn (v 71) (v 75) (v 76) (v 80) (v 81) (v 82) (v 79)).2.2.2.2.2.1)) w t) := by
  refine zk_Cr.of (K := zm_227) rfl rfl rfl ?_
  show zk_T zk_mt zk_ex Ls xs zm_227 (0, [(0, .ref 69), (1, .int (nI e))], []) (zH v w t) _
  refine zk_T.adv 1 (f' := (1, [(0, .ref 69), (1, .int (nI e))], [.ref 69])) (h' := zH v w t) rfl ?_
  refine zk_T.cl (v := none) (h' := zH (zb v 68 (upd (upd (v 68) 0 0) 11 0)) w t) rfl (zs_manew (v := v) (w := w)) ?_
  show zk_T zk_mt zk_ex Ls xs zm_227 (4, [(0, .ref 69), (1, .int (nI e))], []) (zH (zb v 68 (upd (upd (v 68) 0 0) 11 0)) w t) _
  refine zk_T.adv 2 (f' := (6, [(0, .ref 69), (1, .int (nI e))], [.int (nI e), .ref 69])) (h' := zH (zb v 68 (upd (upd (v 68) 0 0) 11 0)) w t) rfl ?_
  refine zk_T.cl (v := some (.int 1)) (h' := zH (zb v 68 (upd (upd (v 68) 0 0) 11 0)) w t) rfl (by have ee_ : zk_Cr zk_mt zk_ex Ls xs 118 [.ref 69, .int (nI e)] (zH (zb v 68 (upd (upd (v 68) 0 0) 11 0)) w t) (some (.int (zr_misX (v 68 14) (v 71 2) (nI e))), zH (zb v 68 (upd (upd (v 68) 0 0) 11 0)) w t) := zs_misMaker (v := (zb v 68 (upd (upd (v 68) 0 0) 11 0))) (w := w) (nI e); rw [show (zr_misX (v 68 14) (v 71 2) (nI e)) = 1 from hg] at ee_; exact ee_) ?_
  show zk_T zk_mt zk_ex Ls xs zm_227 (9, [(0, .ref 69), (1, .int (nI e))], [.int 1]) (zH (zb v 68 (upd (upd (v 68) 0 0) 11 0)) w t) _
  refine zk_T.br (f1 := (12, [(0, .ref 69), (1, .int (nI e))], [])) (f2 := (18, [(0, .ref 69), (1, .int (nI e))], [])) rfl (fun c1 => absurd (of_decide_eq_true c1) (by decide)) (fun c1 => ?_)
  refine zk_T.adv 1 (f' := (19, [(0, .ref 69), (1, .int (nI e))], [.ref 69])) (h' := zH (zb v 68 (upd (upd (v 68) 0 0) 11 0)) w t) rfl ?_
  refine zk_T.cl (v := none) (h' := zH (zb (zb (zb (zb (zb (zb v 68 (upd (upd (upd (v 68) 0 0) 11 0) 26 ((zr_mbegin (v 75) (v 76) (v 80) (v 81) (v 82) (v 79)).2.1))) 76 ((zr_mbegin (v 75) (v 76) (v 80) (v 81) (v 82) (v 79)).1)) 79 ((zr_mbegin (v 75) (v 76) (v 80) (v 81) (v 82) (v 79)).2.2.2.2.2)) 80 ((zr_mbegin (v 75) (v 76) (v 80) (v 81) (v 82) (v 79)).2.2.1)) 81 ((zr_mbegin (v 75) (v 76) (v 80) (v 81) (v 82) (v 79)).2.2.2.1)) 82 ((zr_mbegin (v 75) (v 76) (v 80) (v 81) (v 82) (v 79)).2.2.2.2.1)) w t) rfl (zs_mbegin (v := (zb v 68 (upd (upd (v 68) 0 0) 11 0))) (w := w)) ?_
  show zk_T zk_mt zk_ex Ls xs zm_227 (22, [(0, .ref 69), (1, .int (nI e))], []) (zH (zb (zb (zb (zb (zb (zb v 68 (upd (upd (upd (v 68) 0 0) 11 0) 26 ((zr_mbegin (v 75) (v 76) (v 80) (v 81) (v 82) (v 79)).2.1))) 76 ((zr_mbegin (v 75) (v 76) (v 80) (v 81) (v 82) (v 79)).1)) 79 ((zr_mbegin (v 75) (v 76) (v 80) (v 81) (v 82) (v 79)).2.2.2.2.2)) 80 ((zr_mbegin (v 75) (v 76) (v 80) (v 81) (v 82) (v 79)).2.2.1)) 81 ((zr_mbegin (v 75) (v 76) (v 80) (v 81) (v 82) (v 79)).2.2.2.1)) 82 ((zr_mbegin (v 75) (v 76) (v 80) (v 81) (v 82) (v 79)).2.2.2.2.1)) w t) _
  refine zk_T.adv 2 (f' := (24, [(0, .ref 69), (1, .int (nI e)), (2, .int 0)], [])) (h' := zH (zb (zb (zb (zb (zb (zb v 68 (upd (upd (upd (v 68) 0 0) 11 0) 26 ((zr_mbegin (v 75) (v 76) (v 80) (v 81) (v 82) (v 79)).2.1))) 76 ((zr_mbegin (v 75) (v 76) (v 80) (v 81) (v 82) (v 79)).1)) 79 ((zr_mbegin (v 75) (v 76) (v 80) (v 81) (v 82) (v 79)).2.2.2.2.2)) 80 ((zr_mbegin (v 75) (v 76) (v 80) (v 81) (v 82) (v 79)).2.2.1)) 81 ((zr_mbegin (v 75) (v 76) (v 80) (v 81) (v 82) (v 79)).2.2.2.1)) 82 ((zr_mbegin (v 75) (v 76) (v 80) (v 81) (v 82) (v 79)).2.2.2.2.1)) w t) rfl ?_
  refine zl_mwornIn (v := (zb (zb (zb (zb (zb (zb v 68 (upd (upd (upd (v 68) 0 0) 11 0) 26 ((zr_mbegin (v 75) (v 76) (v 80) (v 81) (v 82) (v 79)).2.1))) 76 ((zr_mbegin (v 75) (v 76) (v 80) (v 81) (v 82) (v 79)).1)) 79 ((zr_mbegin (v 75) (v 76) (v 80) (v 81) (v 82) (v 79)).2.2.2.2.2)) 80 ((zr_mbegin (v 75) (v 76) (v 80) (v 81) (v 82) (v 79)).2.2.1)) 81 ((zr_mbegin (v 75) (v 76) (v 80) (v 81) (v 82) (v 79)).2.2.2.1)) 82 ((zr_mbegin (v 75) (v 76) (v 80) (v 81) (v 82) (v 79)).2.2.2.2.1))) (w := w) (t := t) e he D hD h8 Gn hG h4 hev ((zr_mbegin (v 75) (v 76) (v 80) (v 81) (v 82) (v 79)).1, (zr_mbegin (v 75) (v 76) (v 80) (v 81) (v 82) (v 79)).2.1, (zr_mbegin (v 75) (v 76) (v 80) (v 81) (v 82) (v 79)).2.2.1, (zr_mbegin (v 75) (v 76) (v 80) (v 81) (v 82) (v 79)).2.2.2.1, (zr_mbegin (v 75) (v 76) (v 80) (v 81) (v 82) (v 79)).2.2.2.2.1) _ (zr_mbegin_lie (row := v 76) (lt := v 80) (lw := v 81) (oo := v 82) (slp := v 79) hli h4) ?_
  show zk_or _ _ (zfr (zl_mwornInG D Gn (v 71) ((zr_mbegin (v 75) (v 76) (v 80) (v 81) (v 82) (v 79)).2.2.2.2.2) e) 61 0 ((zr_mbegin (v 75) (v 76) (v 80) (v 81) (v 82) (v 79)).1, (zr_mbegin (v 75) (v 76) (v 80) (v 81) (v 82) (v 79)).2.1, (zr_mbegin (v 75) (v 76) (v 80) (v 81) (v 82) (v 79)).2.2.1, (zr_mbegin (v 75) (v 76) (v 80) (v 81) (v 82) (v 79)).2.2.2.1, (zr_mbegin (v 75) (v 76) (v 80) (v 81) (v 82) (v 79)).2.2.2.2.1))
  cases z2 : zfr (zl_mwornInG D Gn (v 71) ((zr_mbegin (v 75) (v 76) (v 80) (v 81) (v 82) (v 79)).2.2.2.2.2) e) 61 0 ((zr_mbegin (v 75) (v 76) (v 80) (v 81) (v 82) (v 79)).1, (zr_mbegin (v 75) (v 76) (v 80) (v 81) (v 82) (v 79)).2.1, (zr_mbegin (v 75) (v 76) (v 80) (v 81) (v 82) (v 79)).2.2.1, (zr_mbegin (v 75) (v 76) (v 80) (v 81) (v 82) (v 79)).2.2.2.1, (zr_mbegin (v 75) (v 76) (v 80) (v 81) (v 82) (v 79)).2.2.2.2.1) with
  | inl s =>
    show zk_T zk_mt zk_ex Ls xs zm_227 (55, [(0, .ref 69), (1, .int (nI e)), (2, .int (nI (0 + 61)))], []) (zH (zb (zb (zb (zb (zb (zb v 68 (upd (upd (upd (v 68) 0 0) 11 0) 26 s.2.1)) 76 s.1) 79 ((zr_mbegin (v 75) (v 76) (v 80) (v 81) (v 82) (v 79)).2.2.2.2.2)) 80 s.2.2.1) 81 s.2.2.2.1) 82 s.2.2.2.2) w t) _
    refine zk_T.adv 1 (f' := (57, [(0, .ref 69), (1, .int (nI e)), (2, .int (nI (0 + 61)))], [.int (-2)])) (h' := zH (zb (zb (zb (zb (zb (zb v 68 (upd (upd (upd (v 68) 0 0) 11 0) 26 s.2.1)) 76 s.1) 79 ((zr_mbegin (v 75) (v 76) (v 80) (v 81) (v 82) (v 79)).2.2.2.2.2)) 80 s.2.2.1) 81 s.2.2.2.1) 82 s.2.2.2.2) w t) rfl ?_
    exact zk_T.rt rfl rfl (by simp only [zr_mwornIn, z2] <;> rfl)
  | inr r =>
    simp only [zk_or]
    simp only [zr_mwornIn, z2] <;> rfl
end Z52
