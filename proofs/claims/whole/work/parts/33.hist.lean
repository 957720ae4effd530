/-! contracts: acts, undoing, images -/
section Z33
variable {Ls : Nat} {xs : Nat → Int32} {v : Nat → Nat → Int32} {w : Nat → Nat → Int64} {t : zk_H}
/-- BasketKeep.danger -/
theorem zK_danger_3 (hst : v 0 2 = 1) (D : Nat) (hD : v 20 1 = nI D) (h8 : D ≤ 8) (Mn : Nat) (hM : v 20 4 = nI Mn) (h5 : Mn ≤ 5) (d : Nat) (hd : d < D) : zk_Cr zk_mt zk_ex Ls xs 135 [.ref 0, .int (nI d), .int 3] (zH v w t) (some (.int (zr_makersThinkingOf Mn (v 34) (nI d))), zH (zb v 0 (upd (v 0) 10 0)) w t) := by
  refine zk_Cr.of (K := zm_135) rfl rfl rfl ?_
  show zk_T zk_mt zk_ex Ls xs zm_135 (0, [(0, .ref 0), (1, .int (nI d)), (2, .int 3)], []) (zH v w t) _
  refine zk_T.adv 2 (f' := (2, [(0, .ref 0), (1, .int (nI d)), (2, .int 3)], [.int (nI d), .ref 0])) (h' := zH v w t) rfl ?_
  refine zk_T.cl (v := some (.int 0)) (h' := zH (zb v 0 (upd (v 0) 10 0)) w t) rfl (zs_noDanger_f (v := v) hst D hD h8 d hd) ?_
  show zk_T zk_mt zk_ex Ls xs zm_135 (5, [(0, .ref 0), (1, .int (nI d)), (2, .int 3)], [.int 0]) (zH (zb v 0 (upd (v 0) 10 0)) w t) _
  refine zk_T.br (f1 := (10, [(0, .ref 0), (1, .int (nI d)), (2, .int 3)], [])) (f2 := (8, [(0, .ref 0), (1, .int (nI d)), (2, .int 3)], [])) rfl (fun c1 => ?_) (fun c1 => absurd (by decide) (of_decide_eq_false c1))
  refine zk_T.adv 1 (f' := (11, [(0, .ref 0), (1, .int (nI d)), (2, .int 3)], [.int 3])) (h' := zH (zb v 0 (upd (v 0) 10 0)) w t) rfl ?_
  refine zk_T.adv 7 (f' := (81, [(0, .ref 0), (1, .int (nI d)), (2, .int 3)], [.int (v 20 4), .int (nI d), .ref 32])) (h' := zH (zb v 0 (upd (v 0) 10 0)) w t) rfl ?_
  rw [show (v 20 4) = nI Mn from hM]
  refine zk_T.cl (v := some (.int (zr_makersThinkingOf Mn (v 34) (nI d)))) (h' := zH (zb v 0 (upd (v 0) 10 0)) w t) rfl (zs_makersThinkingOf (v := (zb v 0 (upd (v 0) 10 0))) Mn h5 (nI d)) ?_
  show zk_T zk_mt zk_ex Ls xs zm_135 (84, [(0, .ref 0), (1, .int (nI d)), (2, .int 3)], [.int (zr_makersThinkingOf Mn (v 34) (nI d))]) (zH (zb v 0 (upd (v 0) 10 0)) w t) _
  exact zk_T.rt rfl rfl (by rfl)
/-- BasketKeep.maker -/
theorem zK_maker_3 (hst : v 0 2 = 1) (Mn : Nat) (hM : v 20 4 = nI Mn) (h5 : Mn ≤ 5) (Gn : Nat) (hG : v 20 8 = nI Gn) (h4 : Gn ≤ 4) (e : Nat) (he : e < Mn) : zk_Cr zk_mt zk_ex Ls xs 142 [.ref 0, .int (nI e), .int 3] (zH v w t) (some (.int (zr_goodIn Gn (v 33) (nI e))), zH (zb v 0 (upd (v 0) 10 0)) w t) := by
  refine zk_Cr.of (K := zm_142) rfl rfl rfl ?_
  show zk_T zk_mt zk_ex Ls xs zm_142 (0, [(0, .ref 0), (1, .int (nI e)), (2, .int 3)], []) (zH v w t) _
  refine zk_T.adv 2 (f' := (2, [(0, .ref 0), (1, .int (nI e)), (2, .int 3)], [.int (nI e), .ref 0])) (h' := zH v w t) rfl ?_
  refine zk_T.cl (v := some (.int 0)) (h' := zH (zb v 0 (upd (v 0) 10 0)) w t) rfl (zs_noMaker_f (v := v) hst Mn hM h5 e he) ?_
  show zk_T zk_mt zk_ex Ls xs zm_142 (5, [(0, .ref 0), (1, .int (nI e)), (2, .int 3)], [.int 0]) (zH (zb v 0 (upd (v 0) 10 0)) w t) _
  refine zk_T.br (f1 := (10, [(0, .ref 0), (1, .int (nI e)), (2, .int 3)], [])) (f2 := (8, [(0, .ref 0), (1, .int (nI e)), (2, .int 3)], [])) rfl (fun c1 => ?_) (fun c1 => absurd (by decide) (of_decide_eq_false c1))
  refine zk_T.adv 1 (f' := (11, [(0, .ref 0), (1, .int (nI e)), (2, .int 3)], [.int 3])) (h' := zH (zb v 0 (upd (v 0) 10 0)) w t) rfl ?_
  refine zk_T.adv 7 (f' := (82, [(0, .ref 0), (1, .int (nI e)), (2, .int 3)], [.int (v 20 8), .int (nI e), .ref 32])) (h' := zH (zb v 0 (upd (v 0) 10 0)) w t) rfl ?_
  rw [show (v 20 8) = nI Gn from hG]
  refine zk_T.cl (v := some (.int (zr_goodIn Gn (v 33) (nI e)))) (h' := zH (zb v 0 (upd (v 0) 10 0)) w t) rfl (zs_goodIn (v := (zb v 0 (upd (v 0) 10 0))) Gn h4 (nI e)) ?_
  show zk_T zk_mt zk_ex Ls xs zm_142 (85, [(0, .ref 0), (1, .int (nI e)), (2, .int 3)], [.int (zr_goodIn Gn (v 33) (nI e))]) (zH (zb v 0 (upd (v 0) 10 0)) w t) _
  exact zk_T.rt rfl rfl (by rfl)
/-- BasketKeep.size -/
theorem zK_size_0  : zk_Cr zk_mt zk_ex Ls xs 81 [.ref 0, .int 0] (zH v w t) (some (.int (v 20 0)), zH v w t) := by
  refine zk_Cr.of (K := zm_81) rfl rfl rfl ?_
  show zk_T zk_mt zk_ex Ls xs zm_81 (0, [(0, .ref 0), (1, .int 0)], []) (zH v w t) _
  refine zk_T.adv 1 (f' := (1, [(0, .ref 0), (1, .int 0)], [.int 0])) (h' := zH v w t) rfl ?_
  refine zk_T.adv 4 (f' := (67, [(0, .ref 0), (1, .int 0)], [.int (v 20 0)])) (h' := zH v w t) rfl ?_
  exact zk_T.rt rfl rfl (by rfl)
/-- BasketKeep.size -/
theorem zK_size_1  : zk_Cr zk_mt zk_ex Ls xs 81 [.ref 0, .int 1] (zH v w t) (some (.int (v 20 1)), zH v w t) := by
  refine zk_Cr.of (K := zm_81) rfl rfl rfl ?_
  show zk_T zk_mt zk_ex Ls xs zm_81 (0, [(0, .ref 0), (1, .int 1)], []) (zH v w t) _
  refine zk_T.adv 1 (f' := (1, [(0, .ref 0), (1, .int 1)], [.int 1])) (h' := zH v w t) rfl ?_
  refine zk_T.adv 4 (f' := (75, [(0, .ref 0), (1, .int 1)], [.int (v 20 1)])) (h' := zH v w t) rfl ?_
  exact zk_T.rt rfl rfl (by rfl)
/-- BasketKeep.size -/
theorem zK_size_2  : zk_Cr zk_mt zk_ex Ls xs 81 [.ref 0, .int 2] (zH v w t) (some (.int (v 20 4)), zH v w t) := by
  refine zk_Cr.of (K := zm_81) rfl rfl rfl ?_
  show zk_T zk_mt zk_ex Ls xs zm_81 (0, [(0, .ref 0), (1, .int 2)], []) (zH v w t) _
  refine zk_T.adv 1 (f' := (1, [(0, .ref 0), (1, .int 2)], [.int 2])) (h' := zH v w t) rfl ?_
  refine zk_T.adv 4 (f' := (83, [(0, .ref 0), (1, .int 2)], [.int (v 20 4)])) (h' := zH v w t) rfl ?_
  exact zk_T.rt rfl rfl (by rfl)
/-- BasketKeep.size -/
theorem zK_size_3  : zk_Cr zk_mt zk_ex Ls xs 81 [.ref 0, .int 3] (zH v w t) (some (.int (v 20 8)), zH v w t) := by
  refine zk_Cr.of (K := zm_81) rfl rfl rfl ?_
  show zk_T zk_mt zk_ex Ls xs zm_81 (0, [(0, .ref 0), (1, .int 3)], []) (zH v w t) _
  refine zk_T.adv 1 (f' := (1, [(0, .ref 0), (1, .int 3)], [.int 3])) (h' := zH v w t) rfl ?_
  refine zk_T.adv 4 (f' := (91, [(0, .ref 0), (1, .int 3)], [.int (v 20 8)])) (h' := zH v w t) rfl ?_
  exact zk_T.rt rfl rfl (by rfl)
/-- BasketKeep.size -/
theorem zK_size_4 (Gn : Nat) (hG : v 20 8 = nI Gn) (h4 : Gn ≤ 4) : zk_Cr zk_mt zk_ex Ls xs 81 [.ref 0, .int 4] (zH v w t) (some (.int (zr_goodsInBaskets Gn (v 33))), zH v w t) := by
  refine zk_Cr.of (K := zm_81) rfl rfl rfl ?_
  show zk_T zk_mt zk_ex Ls xs zm_81 (0, [(0, .ref 0), (1, .int 4)], []) (zH v w t) _
  refine zk_T.adv 1 (f' := (1, [(0, .ref 0), (1, .int 4)], [.int 4])) (h' := zH v w t) rfl ?_
  refine zk_T.adv 6 (f' := (103, [(0, .ref 0), (1, .int 4)], [.int (v 20 8), .ref 32])) (h' := zH v w t) rfl ?_
  rw [show (v 20 8) = nI Gn from hG]
  refine zk_T.cl (v := some (.int (zr_goodsInBaskets Gn (v 33)))) (h' := zH v w t) rfl (zs_goodsInBaskets (v := v) Gn h4) ?_
  show zk_T zk_mt zk_ex Ls xs zm_81 (106, [(0, .ref 0), (1, .int 4)], [.int (zr_goodsInBaskets Gn (v 33))]) (zH v w t) _
  exact zk_T.rt rfl rfl (by rfl)
/-- BasketKeep.size -/
theorem zK_size_5  : zk_Cr zk_mt zk_ex Ls xs 81 [.ref 0, .int 5] (zH v w t) (some (.int (v 20 14)), zH v w t) := by
  refine zk_Cr.of (K := zm_81) rfl rfl rfl ?_
  show zk_T zk_mt zk_ex Ls xs zm_81 (0, [(0, .ref 0), (1, .int 5)], []) (zH v w t) _
  refine zk_T.adv 1 (f' := (1, [(0, .ref 0), (1, .int 5)], [.int 5])) (h' := zH v w t) rfl ?_
  refine zk_T.adv 4 (f' := (114, [(0, .ref 0), (1, .int 5)], [.int (v 20 14)])) (h' := zH v w t) rfl ?_
  exact zk_T.rt rfl rfl (by rfl)
/-- BasketKeep.size -/
theorem zK_size_6  : zk_Cr zk_mt zk_ex Ls xs 81 [.ref 0, .int 6] (zH v w t) (some (.int (v 20 13)), zH v w t) := by
  refine zk_Cr.of (K := zm_81) rfl rfl rfl ?_
  show zk_T zk_mt zk_ex Ls xs zm_81 (0, [(0, .ref 0), (1, .int 6)], []) (zH v w t) _
  refine zk_T.adv 1 (f' := (1, [(0, .ref 0), (1, .int 6)], [.int 6])) (h' := zH v w t) rfl ?_
  refine zk_T.adv 4 (f' := (122, [(0, .ref 0), (1, .int 6)], [.int (v 20 13)])) (h' := zH v w t) rfl ?_
  exact zk_T.rt rfl rfl (by rfl)
/-- BasketKeep.size -/
theorem zK_size_7  : zk_Cr zk_mt zk_ex Ls xs 81 [.ref 0, .int 7] (zH v w t) (some (.int (v 32 0)), zH v w t) := by
  refine zk_Cr.of (K := zm_81) rfl rfl rfl ?_
  show zk_T zk_mt zk_ex Ls xs zm_81 (0, [(0, .ref 0), (1, .int 7)], []) (zH v w t) _
  refine zk_T.adv 1 (f' := (1, [(0, .ref 0), (1, .int 7)], [.int 7])) (h' := zH v w t) rfl ?_
  refine zk_T.adv 4 (f' := (130, [(0, .ref 0), (1, .int 7)], [.int (v 32 0)])) (h' := zH v w t) rfl ?_
  exact zk_T.rt rfl rfl (by rfl)
/-- BasketKeep.size -/
theorem zK_size_8  : zk_Cr zk_mt zk_ex Ls xs 81 [.ref 0, .int 8] (zH v w t) (some (.int (v 40 2)), zH v w t) := by
  refine zk_Cr.of (K := zm_81) rfl rfl rfl ?_
  show zk_T zk_mt zk_ex Ls xs zm_81 (0, [(0, .ref 0), (1, .int 8)], []) (zH v w t) _
  refine zk_T.adv 1 (f' := (1, [(0, .ref 0), (1, .int 8)], [.int 8])) (h' := zH v w t) rfl ?_
  refine zk_T.adv 4 (f' := (138, [(0, .ref 0), (1, .int 8)], [.int (v 40 2)])) (h' := zH v w t) rfl ?_
  exact zk_T.rt rfl rfl (by rfl)
/-- BasketKeep.size -/
theorem zK_size_9  : zk_Cr zk_mt zk_ex Ls xs 81 [.ref 0, .int 9] (zH v w t) (some (.int (v 40 4)), zH v w t) := by
  refine zk_Cr.of (K := zm_81) rfl rfl rfl ?_
  show zk_T zk_mt zk_ex Ls xs zm_81 (0, [(0, .ref 0), (1, .int 9)], []) (zH v w t) _
  refine zk_T.adv 1 (f' := (1, [(0, .ref 0), (1, .int 9)], [.int 9])) (h' := zH v w t) rfl ?_
  refine zk_T.adv 4 (f' := (146, [(0, .ref 0), (1, .int 9)], [.int (v 40 4)])) (h' := zH v w t) rfl ?_
  exact zk_T.rt rfl rfl (by rfl)
/-- BasketKeep.size -/
theorem zK_size_10  : zk_Cr zk_mt zk_ex Ls xs 81 [.ref 0, .int 10] (zH v w t) (some (.int (v 2 1)), zH v w t) := by
  refine zk_Cr.of (K := zm_81) rfl rfl rfl ?_
  show zk_T zk_mt zk_ex Ls xs zm_81 (0, [(0, .ref 0), (1, .int 10)], []) (zH v w t) _
  refine zk_T.adv 1 (f' := (1, [(0, .ref 0), (1, .int 10)], [.int 10])) (h' := zH v w t) rfl ?_
  refine zk_T.adv 5 (f' := (157, [(0, .ref 0), (1, .int 10)], [.int (v 2 1)])) (h' := zH v w t) rfl ?_
  exact zk_T.rt rfl rfl (by rfl)
/-- BasketKeep.size -/
theorem zK_size_d (x : Int32) (hw : x.toInt < 0 ∨ 10 < x.toInt) : zk_Cr zk_mt zk_ex Ls xs 81 [.ref 0, .int x] (zH v w t) (some (.int (-1)), zH v w t) := by
  refine zk_Cr.of (K := zm_81) rfl rfl rfl ?_
  show zk_T zk_mt zk_ex Ls xs zm_81 (0, [(0, .ref 0), (1, .int x)], []) (zH v w t) _
  refine zk_T.adv 1 (f' := (1, [(0, .ref 0), (1, .int x)], [.int x])) (h' := zH v w t) rfl ?_
  refine zk_T.tsd (tgt := 158) rfl hw rfl ?_
  show zk_T zk_mt zk_ex Ls xs zm_81 (158, [(0, .ref 0), (1, .int x)], []) (zH v w t) _
  refine zk_T.adv 1 (f' := (159, [(0, .ref 0), (1, .int x)], [.int (-1)])) (h' := zH v w t) rfl ?_
  exact zk_T.rt rfl rfl (by rfl)
def zr_save (ro : Nat → Int32) (b : Nat) (ye lo : Int32) (li th la : Nat → Int32) : (Nat → Int32) := va_cpy (la) (va_cpy (th) (va_cpy (li) (upd (upd (ro) b ye) (b + 1) lo) 0 (b + 2) 4) 0 ((b + 2) + 4) 5) 0 (((b + 2) + 4) + 5) 5
/-- BasketKeep$State.saveTo -/
theorem zs_saveB (b : Nat) (hb : b + 16 ≤ 256) : zk_Cr zk_mt zk_ex Ls xs 94 [.ref 32, .ref 41, .int (nI b)] (zH v w t) (none, zH (zb v 41 (zr_save (v 41) b (v 32 0) (v 32 1) (v 33) (v 34) (v 35))) w t) := by
  refine zk_Cr.of (K := zm_94) rfl rfl rfl ?_
  show zk_T zk_mt zk_ex Ls xs zm_94 (0, [(0, .ref 32), (1, .ref 41), (2, .int (nI b))], []) (zH v w t) _
  refine zk_T.adv 4 (f' := (6, [(0, .ref 32), (1, .ref 41), (2, .int (nI b))], [.int (v 32 0), .int (nI b), .ref 41])) (h' := zH v w t) rfl ?_
  refine zk_T.ob (f' := (7, [(0, .ref 32), (1, .ref 41), (2, .int (nI b))], [])) (h' := zH (zb v 41 (upd (v 41) (nI b).toNatClampNeg (v 32 0))) w t) rfl (by first | exact zk_inN (by omega) (by decide) | decide) ?_
  rw [nI_clamp (show b < 2 ^ 31 by omega)]
  refine zk_T.adv 4 (f' := (11, [(0, .ref 32), (1, .ref 41), (2, .int (nI b))], [.int ((nI b) + 1), .ref 41])) (h' := zH (zb v 41 (upd (v 41) b (v 32 0))) w t) rfl ?_
  rw [show (nI b) + 1 = nI (b + 1) from nI_add b 1]
  refine zk_T.adv 2 (f' := (15, [(0, .ref 32), (1, .ref 41), (2, .int (nI b))], [.int (v 32 1), .int (nI (b + 1)), .ref 41])) (h' := zH (zb v 41 (upd (v 41) b (v 32 0))) w t) rfl ?_
  refine zk_T.ob (f' := (16, [(0, .ref 32), (1, .ref 41), (2, .int (nI b))], [])) (h' := zH (zb v 41 (upd (upd (v 41) b (v 32 0)) (nI (b + 1)).toNatClampNeg (v 32 1))) w t) rfl (by first | exact zk_inN (by omega) (by decide) | decide) ?_
  rw [nI_clamp (show (b + 1) < 2 ^ 31 by omega)]
  refine zk_T.adv 7 (f' := (25, [(0, .ref 32), (1, .ref 41), (2, .int (nI b))], [.int ((nI b) + 2), .ref 41, .int 0, .ref 33])) (h' := zH (zb v 41 (upd (upd (v 41) b (v 32 0)) (b + 1) (v 32 1))) w t) rfl ?_
  rw [show (nI b) + 2 = nI (b + 2) from nI_add b 2]
  refine zk_T.adv 1 (f' := (26, [(0, .ref 32), (1, .ref 41), (2, .int (nI b))], [.int 4, .int (nI (b + 2)), .ref 41, .int 0, .ref 33])) (h' := zH (zb v 41 (upd (upd (v 41) b (v 32 0)) (b + 1) (v 32 1))) w t) rfl ?_
  refine zk_T.ob (f' := (29, [(0, .ref 32), (1, .ref 41), (2, .int (nI b))], [])) (h' := zH (zb v 41 (va_cpy (v 33) (upd (upd (v 41) b (v 32 0)) (b + 1) (v 32 1)) (0 : Int32).toNatClampNeg (nI (b + 2)).toNatClampNeg (4 : Int32).toNatClampNeg)) w t) rfl (show zk_cpOk (nI 0) (nI (b + 2)) (nI 4) 4 256 = true from zk_cpN (by omega) (by omega) (by decide) (by decide)) ?_
  rw [nI_clamp (show (b + 2) < 2 ^ 31 by omega)]
  show zk_T zk_mt zk_ex Ls xs zm_94 (29, [(0, .ref 32), (1, .ref 41), (2, .int (nI b))], []) (zH (zb v 41 (va_cpy (v 33) (upd (upd (v 41) b (v 32 0)) (b + 1) (v 32 1)) 0 (b + 2) 4)) w t) _
  refine zk_T.adv 7 (f' := (38, [(0, .ref 32), (1, .ref 41), (2, .int (nI b))], [.int ((nI b) + 2), .ref 41, .int 0, .ref 34])) (h' := zH (zb v 41 (va_cpy (v 33) (upd (upd (v 41) b (v 32 0)) (b + 1) (v 32 1)) 0 (b + 2) 4)) w t) rfl ?_
  rw [show (nI b) + 2 = nI (b + 2) from nI_add b 2]
  refine zk_T.adv 2 (f' := (40, [(0, .ref 32), (1, .ref 41), (2, .int (nI b))], [.int ((nI (b + 2)) + 4), .ref 41, .int 0, .ref 34])) (h' := zH (zb v 41 (va_cpy (v 33) (upd (upd (v 41) b (v 32 0)) (b + 1) (v 32 1)) 0 (b + 2) 4)) w t) rfl ?_
  rw [show (nI (b + 2)) + 4 = nI ((b + 2) + 4) from nI_add (b + 2) 4]
  refine zk_T.adv 1 (f' := (41, [(0, .ref 32), (1, .ref 41), (2, .int (nI b))], [.int 5, .int (nI ((b + 2) + 4)), .ref 41, .int 0, .ref 34])) (h' := zH (zb v 41 (va_cpy (v 33) (upd (upd (v 41) b (v 32 0)) (b + 1) (v 32 1)) 0 (b + 2) 4)) w t) rfl ?_
  refine zk_T.ob (f' := (44, [(0, .ref 32), (1, .ref 41), (2, .int (nI b))], [])) (h' := zH (zb v 41 (va_cpy (v 34) (va_cpy (v 33) (upd (upd (v 41) b (v 32 0)) (b + 1) (v 32 1)) 0 (b + 2) 4) (0 : Int32).toNatClampNeg (nI ((b + 2) + 4)).toNatClampNeg (5 : Int32).toNatClampNeg)) w t) rfl (show zk_cpOk (nI 0) (nI ((b + 2) + 4)) (nI 5) 5 256 = true from zk_cpN (by omega) (by omega) (by decide) (by decide)) ?_
  rw [nI_clamp (show ((b + 2) + 4) < 2 ^ 31 by omega)]
  show zk_T zk_mt zk_ex Ls xs zm_94 (44, [(0, .ref 32), (1, .ref 41), (2, .int (nI b))], []) (zH (zb v 41 (va_cpy (v 34) (va_cpy (v 33) (upd (upd (v 41) b (v 32 0)) (b + 1) (v 32 1)) 0 (b + 2) 4) 0 ((b + 2) + 4) 5)) w t) _
  refine zk_T.adv 7 (f' := (53, [(0, .ref 32), (1, .ref 41), (2, .int (nI b))], [.int ((nI b) + 2), .ref 41, .int 0, .ref 35])) (h' := zH (zb v 41 (va_cpy (v 34) (va_cpy (v 33) (upd (upd (v 41) b (v 32 0)) (b + 1) (v 32 1)) 0 (b + 2) 4) 0 ((b + 2) + 4) 5)) w t) rfl ?_
  rw [show (nI b) + 2 = nI (b + 2) from nI_add b 2]
  refine zk_T.adv 2 (f' := (55, [(0, .ref 32), (1, .ref 41), (2, .int (nI b))], [.int ((nI (b + 2)) + 4), .ref 41, .int 0, .ref 35])) (h' := zH (zb v 41 (va_cpy (v 34) (va_cpy (v 33) (upd (upd (v 41) b (v 32 0)) (b + 1) (v 32 1)) 0 (b + 2) 4) 0 ((b + 2) + 4) 5)) w t) rfl ?_
  rw [show (nI (b + 2)) + 4 = nI ((b + 2) + 4) from nI_add (b + 2) 4]
  refine zk_T.adv 2 (f' := (57, [(0, .ref 32), (1, .ref 41), (2, .int (nI b))], [.int ((nI ((b + 2) + 4)) + 5), .ref 41, .int 0, .ref 35])) (h' := zH (zb v 41 (va_cpy (v 34) (va_cpy (v 33) (upd (upd (v 41) b (v 32 0)) (b + 1) (v 32 1)) 0 (b + 2) 4) 0 ((b + 2) + 4) 5)) w t) rfl ?_
  rw [show (nI ((b + 2) + 4)) + 5 = nI (((b + 2) + 4) + 5) from nI_add ((b + 2) + 4) 5]
  refine zk_T.adv 1 (f' := (58, [(0, .ref 32), (1, .ref 41), (2, .int (nI b))], [.int 5, .int (nI (((b + 2) + 4) + 5)), .ref 41, .int 0, .ref 35])) (h' := zH (zb v 41 (va_cpy (v 34) (va_cpy (v 33) (upd (upd (v 41) b (v 32 0)) (b + 1) (v 32 1)) 0 (b + 2) 4) 0 ((b + 2) + 4) 5)) w t) rfl ?_
  refine zk_T.ob (f' := (61, [(0, .ref 32), (1, .ref 41), (2, .int (nI b))], [])) (h' := zH (zb v 41 (va_cpy (v 35) (va_cpy (v 34) (va_cpy (v 33) (upd (upd (v 41) b (v 32 0)) (b + 1) (v 32 1)) 0 (b + 2) 4) 0 ((b + 2) + 4) 5) (0 : Int32).toNatClampNeg (nI (((b + 2) + 4) + 5)).toNatClampNeg (5 : Int32).toNatClampNeg)) w t) rfl (show zk_cpOk (nI 0) (nI (((b + 2) + 4) + 5)) (nI 5) 5 256 = true from zk_cpN (by omega) (by omega) (by decide) (by decide)) ?_
  rw [nI_clamp (show (((b + 2) + 4) + 5) < 2 ^ 31 by omega)]
  show zk_T zk_mt zk_ex Ls xs zm_94 (61, [(0, .ref 32), (1, .ref 41), (2, .int (nI b))], []) (zH (zb v 41 (va_cpy (v 35) (va_cpy (v 34) (va_cpy (v 33) (upd (upd (v 41) b (v 32 0)) (b + 1) (v 32 1)) 0 (b + 2) 4) 0 ((b + 2) + 4) 5) 0 (((b + 2) + 4) + 5) 5)) w t) _
  exact zk_T.rt rfl rfl (by simp only [zr_save] <;> rfl)
/-- BasketKeep$State.loadFrom -/
theorem zs_loadB (b : Nat) (hb : b + 16 ≤ 256) : zk_Cr zk_mt zk_ex Ls xs 93 [.ref 32, .ref 41, .int (nI b)] (zH v w t) (none, zH (zb (zb (zb (zb v 32 (upd (upd (v 32) 0 (v 41 b)) 1 (v 41 (b + 1)))) 33 (va_cpy (v 41) (v 33) (b + 2) 0 4)) 34 (va_cpy (v 41) (v 34) ((b + 2) + 4) 0 5)) 35 (va_cpy (v 41) (v 35) (((b + 2) + 4) + 5) 0 5)) w t) := by
  refine zk_Cr.of (K := zm_93) rfl rfl rfl ?_
  show zk_T zk_mt zk_ex Ls xs zm_93 (0, [(0, .ref 32), (1, .ref 41), (2, .int (nI b))], []) (zH v w t) _
  refine zk_T.adv 3 (f' := (3, [(0, .ref 32), (1, .ref 41), (2, .int (nI b))], [.int (nI b), .ref 41, .ref 32])) (h' := zH v w t) rfl ?_
  refine zk_T.ob (f' := (4, [(0, .ref 32), (1, .ref 41), (2, .int (nI b))], [.int (v 41 (nI b).toNatClampNeg), .ref 32])) (h' := zH v w t) rfl (by first | exact zk_inN (by omega) (by decide) | decide) ?_
  rw [nI_clamp (show b < 2 ^ 31 by omega)]
  refine zk_T.adv 6 (f' := (12, [(0, .ref 32), (1, .ref 41), (2, .int (nI b))], [.int ((nI b) + 1), .ref 41, .ref 32])) (h' := zH (zb v 32 (upd (v 32) 0 (v 41 b))) w t) rfl ?_
  rw [show (nI b) + 1 = nI (b + 1) from nI_add b 1]
  refine zk_T.ob (f' := (13, [(0, .ref 32), (1, .ref 41), (2, .int (nI b))], [.int (v 41 (nI (b + 1)).toNatClampNeg), .ref 32])) (h' := zH (zb v 32 (upd (v 32) 0 (v 41 b))) w t) rfl (by first | exact zk_inN (by omega) (by decide) | decide) ?_
  rw [nI_clamp (show (b + 1) < 2 ^ 31 by omega)]
  refine zk_T.adv 5 (f' := (20, [(0, .ref 32), (1, .ref 41), (2, .int (nI b))], [.int ((nI b) + 2), .ref 41])) (h' := zH (zb v 32 (upd (upd (v 32) 0 (v 41 b)) 1 (v 41 (b + 1)))) w t) rfl ?_
  rw [show (nI b) + 2 = nI (b + 2) from nI_add b 2]
  refine zk_T.adv 4 (f' := (26, [(0, .ref 32), (1, .ref 41), (2, .int (nI b))], [.int 4, .int 0, .ref 33, .int (nI (b + 2)), .ref 41])) (h' := zH (zb v 32 (upd (upd (v 32) 0 (v 41 b)) 1 (v 41 (b + 1)))) w t) rfl ?_
  refine zk_T.ob (f' := (29, [(0, .ref 32), (1, .ref 41), (2, .int (nI b))], [])) (h' := zH (zb (zb v 32 (upd (upd (v 32) 0 (v 41 b)) 1 (v 41 (b + 1)))) 33 (va_cpy (v 41) (v 33) (nI (b + 2)).toNatClampNeg (0 : Int32).toNatClampNeg (4 : Int32).toNatClampNeg)) w t) rfl (show zk_cpOk (nI (b + 2)) (nI 0) (nI 4) 256 4 = true from zk_cpN (by omega) (by omega) (by decide) (by decide)) ?_
  rw [nI_clamp (show (b + 2) < 2 ^ 31 by omega)]
  show zk_T zk_mt zk_ex Ls xs zm_93 (29, [(0, .ref 32), (1, .ref 41), (2, .int (nI b))], []) (zH (zb (zb v 32 (upd (upd (v 32) 0 (v 41 b)) 1 (v 41 (b + 1)))) 33 (va_cpy (v 41) (v 33) (b + 2) 0 4)) w t) _
  refine zk_T.adv 4 (f' := (33, [(0, .ref 32), (1, .ref 41), (2, .int (nI b))], [.int ((nI b) + 2), .ref 41])) (h' := zH (zb (zb v 32 (upd (upd (v 32) 0 (v 41 b)) 1 (v 41 (b + 1)))) 33 (va_cpy (v 41) (v 33) (b + 2) 0 4)) w t) rfl ?_
  rw [show (nI b) + 2 = nI (b + 2) from nI_add b 2]
  refine zk_T.adv 2 (f' := (35, [(0, .ref 32), (1, .ref 41), (2, .int (nI b))], [.int ((nI (b + 2)) + 4), .ref 41])) (h' := zH (zb (zb v 32 (upd (upd (v 32) 0 (v 41 b)) 1 (v 41 (b + 1)))) 33 (va_cpy (v 41) (v 33) (b + 2) 0 4)) w t) rfl ?_
  rw [show (nI (b + 2)) + 4 = nI ((b + 2) + 4) from nI_add (b + 2) 4]
  refine zk_T.adv 4 (f' := (41, [(0, .ref 32), (1, .ref 41), (2, .int (nI b))], [.int 5, .int 0, .ref 34, .int (nI ((b + 2) + 4)), .ref 41])) (h' := zH (zb (zb v 32 (upd (upd (v 32) 0 (v 41 b)) 1 (v 41 (b + 1)))) 33 (va_cpy (v 41) (v 33) (b + 2) 0 4)) w t) rfl ?_
  refine zk_T.ob (f' := (44, [(0, .ref 32), (1, .ref 41), (2, .int (nI b))], [])) (h' := zH (zb (zb (zb v 32 (upd (upd (v 32) 0 (v 41 b)) 1 (v 41 (b + 1)))) 33 (va_cpy (v 41) (v 33) (b + 2) 0 4)) 34 (va_cpy (v 41) (v 34) (nI ((b + 2) + 4)).toNatClampNeg (0 : Int32).toNatClampNeg (5 : Int32).toNatClampNeg)) w t) rfl (show zk_cpOk (nI ((b + 2) + 4)) (nI 0) (nI 5) 256 5 = true from zk_cpN (by omega) (by omega) (by decide) (by decide)) ?_
  rw [nI_clamp (show ((b + 2) + 4) < 2 ^ 31 by omega)]
  show zk_T zk_mt zk_ex Ls xs zm_93 (44, [(0, .ref 32), (1, .ref 41), (2, .int (nI b))], []) (zH (zb (zb (zb v 32 (upd (upd (v 32) 0 (v 41 b)) 1 (v 41 (b + 1)))) 33 (va_cpy (v 41) (v 33) (b + 2) 0 4)) 34 (va_cpy (v 41) (v 34) ((b + 2) + 4) 0 5)) w t) _
  refine zk_T.adv 4 (f' := (48, [(0, .ref 32), (1, .ref 41), (2, .int (nI b))], [.int ((nI b) + 2), .ref 41])) (h' := zH (zb (zb (zb v 32 (upd (upd (v 32) 0 (v 41 b)) 1 (v 41 (b + 1)))) 33 (va_cpy (v 41) (v 33) (b + 2) 0 4)) 34 (va_cpy (v 41) (v 34) ((b + 2) + 4) 0 5)) w t) rfl ?_
  rw [show (nI b) + 2 = nI (b + 2) from nI_add b 2]
  refine zk_T.adv 2 (f' := (50, [(0, .ref 32), (1, .ref 41), (2, .int (nI b))], [.int ((nI (b + 2)) + 4), .ref 41])) (h' := zH (zb (zb (zb v 32 (upd (upd (v 32) 0 (v 41 b)) 1 (v 41 (b + 1)))) 33 (va_cpy (v 41) (v 33) (b + 2) 0 4)) 34 (va_cpy (v 41) (v 34) ((b + 2) + 4) 0 5)) w t) rfl ?_
  rw [show (nI (b + 2)) + 4 = nI ((b + 2) + 4) from nI_add (b + 2) 4]
  refine zk_T.adv 2 (f' := (52, [(0, .ref 32), (1, .ref 41), (2, .int (nI b))], [.int ((nI ((b + 2) + 4)) + 5), .ref 41])) (h' := zH (zb (zb (zb v 32 (upd (upd (v 32) 0 (v 41 b)) 1 (v 41 (b + 1)))) 33 (va_cpy (v 41) (v 33) (b + 2) 0 4)) 34 (va_cpy (v 41) (v 34) ((b + 2) + 4) 0 5)) w t) rfl ?_
  rw [show (nI ((b + 2) + 4)) + 5 = nI (((b + 2) + 4) + 5) from nI_add ((b + 2) + 4) 5]
  refine zk_T.adv 4 (f' := (58, [(0, .ref 32), (1, .ref 41), (2, .int (nI b))], [.int 5, .int 0, .ref 35, .int (nI (((b + 2) + 4) + 5)), .ref 41])) (h' := zH (zb (zb (zb v 32 (upd (upd (v 32) 0 (v 41 b)) 1 (v 41 (b + 1)))) 33 (va_cpy (v 41) (v 33) (b + 2) 0 4)) 34 (va_cpy (v 41) (v 34) ((b + 2) + 4) 0 5)) w t) rfl ?_
  refine zk_T.ob (f' := (61, [(0, .ref 32), (1, .ref 41), (2, .int (nI b))], [])) (h' := zH (zb (zb (zb (zb v 32 (upd (upd (v 32) 0 (v 41 b)) 1 (v 41 (b + 1)))) 33 (va_cpy (v 41) (v 33) (b + 2) 0 4)) 34 (va_cpy (v 41) (v 34) ((b + 2) + 4) 0 5)) 35 (va_cpy (v 41) (v 35) (nI (((b + 2) + 4) + 5)).toNatClampNeg (0 : Int32).toNatClampNeg (5 : Int32).toNatClampNeg)) w t) rfl (show zk_cpOk (nI (((b + 2) + 4) + 5)) (nI 0) (nI 5) 256 5 = true from zk_cpN (by omega) (by omega) (by decide) (by decide)) ?_
  rw [nI_clamp (show (((b + 2) + 4) + 5) < 2 ^ 31 by omega)]
  show zk_T zk_mt zk_ex Ls xs zm_93 (61, [(0, .ref 32), (1, .ref 41), (2, .int (nI b))], []) (zH (zb (zb (zb (zb v 32 (upd (upd (v 32) 0 (v 41 b)) 1 (v 41 (b + 1)))) 33 (va_cpy (v 41) (v 33) (b + 2) 0 4)) 34 (va_cpy (v 41) (v 34) ((b + 2) + 4) 0 5)) 35 (va_cpy (v 41) (v 35) (((b + 2) + 4) + 5) 0 5)) w t) _
  exact zk_T.rt rfl rfl (by rfl)
/-- BasketKeep$State.saveTo -/
theorem zs_saveK (b : Nat) (hb : b + 16 ≤ 48) : zk_Cr zk_mt zk_ex Ls xs 94 [.ref 32, .ref 42, .int (nI b)] (zH v w t) (none, zH (zb v 42 (zr_save (v 42) b (v 32 0) (v 32 1) (v 33) (v 34) (v 35))) w t) := by
  refine zk_Cr.of (K := zm_94) rfl rfl rfl ?_
  show zk_T zk_mt zk_ex Ls xs zm_94 (0, [(0, .ref 32), (1, .ref 42), (2, .int (nI b))], []) (zH v w t) _
  refine zk_T.adv 4 (f' := (6, [(0, .ref 32), (1, .ref 42), (2, .int (nI b))], [.int (v 32 0), .int (nI b), .ref 42])) (h' := zH v w t) rfl ?_
  refine zk_T.ob (f' := (7, [(0, .ref 32), (1, .ref 42), (2, .int (nI b))], [])) (h' := zH (zb v 42 (upd (v 42) (nI b).toNatClampNeg (v 32 0))) w t) rfl (by first | exact zk_inN (by omega) (by decide) | decide) ?_
  rw [nI_clamp (show b < 2 ^ 31 by omega)]
  refine zk_T.adv 4 (f' := (11, [(0, .ref 32), (1, .ref 42), (2, .int (nI b))], [.int ((nI b) + 1), .ref 42])) (h' := zH (zb v 42 (upd (v 42) b (v 32 0))) w t) rfl ?_
  rw [show (nI b) + 1 = nI (b + 1) from nI_add b 1]
  refine zk_T.adv 2 (f' := (15, [(0, .ref 32), (1, .ref 42), (2, .int (nI b))], [.int (v 32 1), .int (nI (b + 1)), .ref 42])) (h' := zH (zb v 42 (upd (v 42) b (v 32 0))) w t) rfl ?_
  refine zk_T.ob (f' := (16, [(0, .ref 32), (1, .ref 42), (2, .int (nI b))], [])) (h' := zH (zb v 42 (upd (upd (v 42) b (v 32 0)) (nI (b + 1)).toNatClampNeg (v 32 1))) w t) rfl (by first | exact zk_inN (by omega) (by decide) | decide) ?_
  rw [nI_clamp (show (b + 1) < 2 ^ 31 by omega)]
  refine zk_T.adv 7 (f' := (25, [(0, .ref 32), (1, .ref 42), (2, .int (nI b))], [.int ((nI b) + 2), .ref 42, .int 0, .ref 33])) (h' := zH (zb v 42 (upd (upd (v 42) b (v 32 0)) (b + 1) (v 32 1))) w t) rfl ?_
  rw [show (nI b) + 2 = nI (b + 2) from nI_add b 2]
  refine zk_T.adv 1 (f' := (26, [(0, .ref 32), (1, .ref 42), (2, .int (nI b))], [.int 4, .int (nI (b + 2)), .ref 42, .int 0, .ref 33])) (h' := zH (zb v 42 (upd (upd (v 42) b (v 32 0)) (b + 1) (v 32 1))) w t) rfl ?_
  refine zk_T.ob (f' := (29, [(0, .ref 32), (1, .ref 42), (2, .int (nI b))], [])) (h' := zH (zb v 42 (va_cpy (v 33) (upd (upd (v 42) b (v 32 0)) (b + 1) (v 32 1)) (0 : Int32).toNatClampNeg (nI (b + 2)).toNatClampNeg (4 : Int32).toNatClampNeg)) w t) rfl (show zk_cpOk (nI 0) (nI (b + 2)) (nI 4) 4 48 = true from zk_cpN (by omega) (by omega) (by decide) (by decide)) ?_
  rw [nI_clamp (show (b + 2) < 2 ^ 31 by omega)]
  show zk_T zk_mt zk_ex Ls xs zm_94 (29, [(0, .ref 32), (1, .ref 42), (2, .int (nI b))], []) (zH (zb v 42 (va_cpy (v 33) (upd (upd (v 42) b (v 32 0)) (b + 1) (v 32 1)) 0 (b + 2) 4)) w t) _
  refine zk_T.adv 7 (f' := (38, [(0, .ref 32), (1, .ref 42), (2, .int (nI b))], [.int ((nI b) + 2), .ref 42, .int 0, .ref 34])) (h' := zH (zb v 42 (va_cpy (v 33) (upd (upd (v 42) b (v 32 0)) (b + 1) (v 32 1)) 0 (b + 2) 4)) w t) rfl ?_
  rw [show (nI b) + 2 = nI (b + 2) from nI_add b 2]
  refine zk_T.adv 2 (f' := (40, [(0, .ref 32), (1, .ref 42), (2, .int (nI b))], [.int ((nI (b + 2)) + 4), .ref 42, .int 0, .ref 34])) (h' := zH (zb v 42 (va_cpy (v 33) (upd (upd (v 42) b (v 32 0)) (b + 1) (v 32 1)) 0 (b + 2) 4)) w t) rfl ?_
  rw [show (nI (b + 2)) + 4 = nI ((b + 2) + 4) from nI_add (b + 2) 4]
  refine zk_T.adv 1 (f' := (41, [(0, .ref 32), (1, .ref 42), (2, .int (nI b))], [.int 5, .int (nI ((b + 2) + 4)), .ref 42, .int 0, .ref 34])) (h' := zH (zb v 42 (va_cpy (v 33) (upd (upd (v 42) b (v 32 0)) (b + 1) (v 32 1)) 0 (b + 2) 4)) w t) rfl ?_
  refine zk_T.ob (f' := (44, [(0, .ref 32), (1, .ref 42), (2, .int (nI b))], [])) (h' := zH (zb v 42 (va_cpy (v 34) (va_cpy (v 33) (upd (upd (v 42) b (v 32 0)) (b + 1) (v 32 1)) 0 (b + 2) 4) (0 : Int32).toNatClampNeg (nI ((b + 2) + 4)).toNatClampNeg (5 : Int32).toNatClampNeg)) w t) rfl (show zk_cpOk (nI 0) (nI ((b + 2) + 4)) (nI 5) 5 48 = true from zk_cpN (by omega) (by omega) (by decide) (by decide)) ?_
  rw [nI_clamp (show ((b + 2) + 4) < 2 ^ 31 by omega)]
  show zk_T zk_mt zk_ex Ls xs zm_94 (44, [(0, .ref 32), (1, .ref 42), (2, .int (nI b))], []) (zH (zb v 42 (va_cpy (v 34) (va_cpy (v 33) (upd (upd (v 42) b (v 32 0)) (b + 1) (v 32 1)) 0 (b + 2) 4) 0 ((b + 2) + 4) 5)) w t) _
  refine zk_T.adv 7 (f' := (53, [(0, .ref 32), (1, .ref 42), (2, .int (nI b))], [.int ((nI b) + 2), .ref 42, .int 0, .ref 35])) (h' := zH (zb v 42 (va_cpy (v 34) (va_cpy (v 33) (upd (upd (v 42) b (v 32 0)) (b + 1) (v 32 1)) 0 (b + 2) 4) 0 ((b + 2) + 4) 5)) w t) rfl ?_
  rw [show (nI b) + 2 = nI (b + 2) from nI_add b 2]
  refine zk_T.adv 2 (f' := (55, [(0, .ref 32), (1, .ref 42), (2, .int (nI b))], [.int ((nI (b + 2)) + 4), .ref 42, .int 0, .ref 35])) (h' := zH (zb v 42 (va_cpy (v 34) (va_cpy (v 33) (upd (upd (v 42) b (v 32 0)) (b + 1) (v 32 1)) 0 (b + 2) 4) 0 ((b + 2) + 4) 5)) w t) rfl ?_
  rw [show (nI (b + 2)) + 4 = nI ((b + 2) + 4) from nI_add (b + 2) 4]
  refine zk_T.adv 2 (f' := (57, [(0, .ref 32), (1, .ref 42), (2, .int (nI b))], [.int ((nI ((b + 2) + 4)) + 5), .ref 42, .int 0, .ref 35])) (h' := zH (zb v 42 (va_cpy (v 34) (va_cpy (v 33) (upd (upd (v 42) b (v 32 0)) (b + 1) (v 32 1)) 0 (b + 2) 4) 0 ((b + 2) + 4) 5)) w t) rfl ?_
  rw [show (nI ((b + 2) + 4)) + 5 = nI (((b + 2) + 4) + 5) from nI_add ((b + 2) + 4) 5]
  refine zk_T.adv 1 (f' := (58, [(0, .ref 32), (1, .ref 42), (2, .int (nI b))], [.int 5, .int (nI (((b + 2) + 4) + 5)), .ref 42, .int 0, .ref 35])) (h' := zH (zb v 42 (va_cpy (v 34) (va_cpy (v 33) (upd (upd (v 42) b (v 32 0)) (b + 1) (v 32 1)) 0 (b + 2) 4) 0 ((b + 2) + 4) 5)) w t) rfl ?_
  refine zk_T.ob (f' := (61, [(0, .ref 32), (1, .ref 42), (2, .int (nI b))], [])) (h' := zH (zb v 42 (va_cpy (v 35) (va_cpy (v 34) (va_cpy (v 33) (upd (upd (v 42) b (v 32 0)) (b + 1) (v 32 1)) 0 (b + 2) 4) 0 ((b + 2) + 4) 5) (0 : Int32).toNatClampNeg (nI (((b + 2) + 4) + 5)).toNatClampNeg (5 : Int32).toNatClampNeg)) w t) rfl (show zk_cpOk (nI 0) (nI (((b + 2) + 4) + 5)) (nI 5) 5 48 = true from zk_cpN (by omega) (by omega) (by decide) (by decide)) ?_
  rw [nI_clamp (show (((b + 2) + 4) + 5) < 2 ^ 31 by omega)]
  show zk_T zk_mt zk_ex Ls xs zm_94 (61, [(0, .ref 32), (1, .ref 42), (2, .int (nI b))], []) (zH (zb v 42 (va_cpy (v 35) (va_cpy (v 34) (va_cpy (v 33) (upd (upd (v 42) b (v 32 0)) (b + 1) (v 32 1)) 0 (b + 2) 4) 0 ((b + 2) + 4) 5) 0 (((b + 2) + 4) + 5) 5)) w t) _
  exact zk_T.rt rfl rfl (by simp only [zr_save] <;> rfl)
/-- BasketKeep$State.loadFrom -/
theorem zs_loadK (b : Nat) (hb : b + 16 ≤ 48) : zk_Cr zk_mt zk_ex Ls xs 93 [.ref 32, .ref 42, .int (nI b)] (zH v w t) (none, zH (zb (zb (zb (zb v 32 (upd (upd (v 32) 0 (v 42 b)) 1 (v 42 (b + 1)))) 33 (va_cpy (v 42) (v 33) (b + 2) 0 4)) 34 (va_cpy (v 42) (v 34) ((b + 2) + 4) 0 5)) 35 (va_cpy (v 42) (v 35) (((b + 2) + 4) + 5) 0 5)) w t) := by
  refine zk_Cr.of (K := zm_93) rfl rfl rfl ?_
  show zk_T zk_mt zk_ex Ls xs zm_93 (0, [(0, .ref 32), (1, .ref 42), (2, .int (nI b))], []) (zH v w t) _
  refine zk_T.adv 3 (f' := (3, [(0, .ref 32), (1, .ref 42), (2, .int (nI b))], [.int (nI b), .ref 42, .ref 32])) (h' := zH v w t) rfl ?_
  refine zk_T.ob (f' := (4, [(0, .ref 32), (1, .ref 42), (2, .int (nI b))], [.int (v 42 (nI b).toNatClampNeg), .ref 32])) (h' := zH v w t) rfl (by first | exact zk_inN (by omega) (by decide) | decide) ?_
  rw [nI_clamp (show b < 2 ^ 31 by omega)]
  refine zk_T.adv 6 (f' := (12, [(0, .ref 32), (1, .ref 42), (2, .int (nI b))], [.int ((nI b) + 1), .ref 42, .ref 32])) (h' := zH (zb v 32 (upd (v 32) 0 (v 42 b))) w t) rfl ?_
  rw [show (nI b) + 1 = nI (b + 1) from nI_add b 1]
  refine zk_T.ob (f' := (13, [(0, .ref 32), (1, .ref 42), (2, .int (nI b))], [.int (v 42 (nI (b + 1)).toNatClampNeg), .ref 32])) (h' := zH (zb v 32 (upd (v 32) 0 (v 42 b))) w t) rfl (by first | exact zk_inN (by omega) (by decide) | decide) ?_
  rw [nI_clamp (show (b + 1) < 2 ^ 31 by omega)]
  refine zk_T.adv 5 (f' := (20, [(0, .ref 32), (1, .ref 42), (2, .int (nI b))], [.int ((nI b) + 2), .ref 42])) (h' := zH (zb v 32 (upd (upd (v 32) 0 (v 42 b)) 1 (v 42 (b + 1)))) w t) rfl ?_
  rw [show (nI b) + 2 = nI (b + 2) from nI_add b 2]
  refine zk_T.adv 4 (f' := (26, [(0, .ref 32), (1, .ref 42), (2, .int (nI b))], [.int 4, .int 0, .ref 33, .int (nI (b + 2)), .ref 42])) (h' := zH (zb v 32 (upd (upd (v 32) 0 (v 42 b)) 1 (v 42 (b + 1)))) w t) rfl ?_
  refine zk_T.ob (f' := (29, [(0, .ref 32), (1, .ref 42), (2, .int (nI b))], [])) (h' := zH (zb (zb v 32 (upd (upd (v 32) 0 (v 42 b)) 1 (v 42 (b + 1)))) 33 (va_cpy (v 42) (v 33) (nI (b + 2)).toNatClampNeg (0 : Int32).toNatClampNeg (4 : Int32).toNatClampNeg)) w t) rfl (show zk_cpOk (nI (b + 2)) (nI 0) (nI 4) 48 4 = true from zk_cpN (by omega) (by omega) (by decide) (by decide)) ?_
  rw [nI_clamp (show (b + 2) < 2 ^ 31 by omega)]
  show zk_T zk_mt zk_ex Ls xs zm_93 (29, [(0, .ref 32), (1, .ref 42), (2, .int (nI b))], []) (zH (zb (zb v 32 (upd (upd (v 32) 0 (v 42 b)) 1 (v 42 (b + 1)))) 33 (va_cpy (v 42) (v 33) (b + 2) 0 4)) w t) _
  refine zk_T.adv 4 (f' := (33, [(0, .ref 32), (1, .ref 42), (2, .int (nI b))], [.int ((nI b) + 2), .ref 42])) (h' := zH (zb (zb v 32 (upd (upd (v 32) 0 (v 42 b)) 1 (v 42 (b + 1)))) 33 (va_cpy (v 42) (v 33) (b + 2) 0 4)) w t) rfl ?_
  rw [show (nI b) + 2 = nI (b + 2) from nI_add b 2]
  refine zk_T.adv 2 (f' := (35, [(0, .ref 32), (1, .ref 42), (2, .int (nI b))], [.int ((nI (b + 2)) + 4), .ref 42])) (h' := zH (zb (zb v 32 (upd (upd (v 32) 0 (v 42 b)) 1 (v 42 (b + 1)))) 33 (va_cpy (v 42) (v 33) (b + 2) 0 4)) w t) rfl ?_
  rw [show (nI (b + 2)) + 4 = nI ((b + 2) + 4) from nI_add (b + 2) 4]
  refine zk_T.adv 4 (f' := (41, [(0, .ref 32), (1, .ref 42), (2, .int (nI b))], [.int 5, .int 0, .ref 34, .int (nI ((b + 2) + 4)), .ref 42])) (h' := zH (zb (zb v 32 (upd (upd (v 32) 0 (v 42 b)) 1 (v 42 (b + 1)))) 33 (va_cpy (v 42) (v 33) (b + 2) 0 4)) w t) rfl ?_
  refine zk_T.ob (f' := (44, [(0, .ref 32), (1, .ref 42), (2, .int (nI b))], [])) (h' := zH (zb (zb (zb v 32 (upd (upd (v 32) 0 (v 42 b)) 1 (v 42 (b + 1)))) 33 (va_cpy (v 42) (v 33) (b + 2) 0 4)) 34 (va_cpy (v 42) (v 34) (nI ((b + 2) + 4)).toNatClampNeg (0 : Int32).toNatClampNeg (5 : Int32).toNatClampNeg)) w t) rfl (show zk_cpOk (nI ((b + 2) + 4)) (nI 0) (nI 5) 48 5 = true from zk_cpN (by omega) (by omega) (by decide) (by decide)) ?_
  rw [nI_clamp (show ((b + 2) + 4) < 2 ^ 31 by omega)]
  show zk_T zk_mt zk_ex Ls xs zm_93 (44, [(0, .ref 32), (1, .ref 42), (2, .int (nI b))], []) (zH (zb (zb (zb v 32 (upd (upd (v 32) 0 (v 42 b)) 1 (v 42 (b + 1)))) 33 (va_cpy (v 42) (v 33) (b + 2) 0 4)) 34 (va_cpy (v 42) (v 34) ((b + 2) + 4) 0 5)) w t) _
  refine zk_T.adv 4 (f' := (48, [(0, .ref 32), (1, .ref 42), (2, .int (nI b))], [.int ((nI b) + 2), .ref 42])) (h' := zH (zb (zb (zb v 32 (upd (upd (v 32) 0 (v 42 b)) 1 (v 42 (b + 1)))) 33 (va_cpy (v 42) (v 33) (b + 2) 0 4)) 34 (va_cpy (v 42) (v 34) ((b + 2) + 4) 0 5)) w t) rfl ?_
  rw [show (nI b) + 2 = nI (b + 2) from nI_add b 2]
  refine zk_T.adv 2 (f' := (50, [(0, .ref 32), (1, .ref 42), (2, .int (nI b))], [.int ((nI (b + 2)) + 4), .ref 42])) (h' := zH (zb (zb (zb v 32 (upd (upd (v 32) 0 (v 42 b)) 1 (v 42 (b + 1)))) 33 (va_cpy (v 42) (v 33) (b + 2) 0 4)) 34 (va_cpy (v 42) (v 34) ((b + 2) + 4) 0 5)) w t) rfl ?_
  rw [show (nI (b + 2)) + 4 = nI ((b + 2) + 4) from nI_add (b + 2) 4]
  refine zk_T.adv 2 (f' := (52, [(0, .ref 32), (1, .ref 42), (2, .int (nI b))], [.int ((nI ((b + 2) + 4)) + 5), .ref 42])) (h' := zH (zb (zb (zb v 32 (upd (upd (v 32) 0 (v 42 b)) 1 (v 42 (b + 1)))) 33 (va_cpy (v 42) (v 33) (b + 2) 0 4)) 34 (va_cpy (v 42) (v 34) ((b + 2) + 4) 0 5)) w t) rfl ?_
  rw [show (nI ((b + 2) + 4)) + 5 = nI (((b + 2) + 4) + 5) from nI_add ((b + 2) + 4) 5]
  refine zk_T.adv 4 (f' := (58, [(0, .ref 32), (1, .ref 42), (2, .int (nI b))], [.int 5, .int 0, .ref 35, .int (nI (((b + 2) + 4) + 5)), .ref 42])) (h' := zH (zb (zb (zb v 32 (upd (upd (v 32) 0 (v 42 b)) 1 (v 42 (b + 1)))) 33 (va_cpy (v 42) (v 33) (b + 2) 0 4)) 34 (va_cpy (v 42) (v 34) ((b + 2) + 4) 0 5)) w t) rfl ?_
  refine zk_T.ob (f' := (61, [(0, .ref 32), (1, .ref 42), (2, .int (nI b))], [])) (h' := zH (zb (zb (zb (zb v 32 (upd (upd (v 32) 0 (v 42 b)) 1 (v 42 (b + 1)))) 33 (va_cpy (v 42) (v 33) (b + 2) 0 4)) 34 (va_cpy (v 42) (v 34) ((b + 2) + 4) 0 5)) 35 (va_cpy (v 42) (v 35) (nI (((b + 2) + 4) + 5)).toNatClampNeg (0 : Int32).toNatClampNeg (5 : Int32).toNatClampNeg)) w t) rfl (show zk_cpOk (nI (((b + 2) + 4) + 5)) (nI 0) (nI 5) 48 5 = true from zk_cpN (by omega) (by omega) (by decide) (by decide)) ?_
  rw [nI_clamp (show (((b + 2) + 4) + 5) < 2 ^ 31 by omega)]
  show zk_T zk_mt zk_ex Ls xs zm_93 (61, [(0, .ref 32), (1, .ref 42), (2, .int (nI b))], []) (zH (zb (zb (zb (zb v 32 (upd (upd (v 32) 0 (v 42 b)) 1 (v 42 (b + 1)))) 33 (va_cpy (v 42) (v 33) (b + 2) 0 4)) 34 (va_cpy (v 42) (v 34) ((b + 2) + 4) 0 5)) 35 (va_cpy (v 42) (v 35) (((b + 2) + 4) + 5) 0 5)) w t) _
  exact zk_T.rt rfl rfl (by rfl)
theorem zr_min16 {k : Nat} (h : k ≤ 16) : zr_min (nI (k + 1)) 16 = nI (min (k + 1) 16) := by
  unfold zr_min
  rcases Nat.lt_or_ge 16 (k + 1) with h1 | h1
  · rw [if_pos (show (16 : Int32) < nI (k + 1) from nI_lt h1 (by omega)), Nat.min_eq_right (Nat.le_of_lt h1)]
    rfl
  · rw [if_neg (show ¬ (16 : Int32) < nI (k + 1) from nI_nlt h1 (by decide)), Nat.min_eq_left h1]
/-- BasketKeep$History.remember -/
theorem zs_remember (p : Nat) (hp : v 40 1 = nI p) (hp16 : p < 16) (k : Nat) (hk : v 40 2 = nI k) (hk16 : k ≤ 16) : zk_Cr zk_mt zk_ex Ls xs 155 [.ref 40, .ref 32] (zH v w t) (none, zH (zb (zb v 40 (upd (upd (v 40) 1 (nI ((p + 1) % 16))) 2 (nI (min (k + 1) 16)))) 41 (zr_save (v 41) (p * 16) (v 32 0) (v 32 1) (v 33) (v 34) (v 35))) w t) := by
  refine zk_Cr.of (K := zm_155) rfl rfl rfl ?_
  show zk_T zk_mt zk_ex Ls xs zm_155 (0, [(0, .ref 40), (1, .ref 32)], []) (zH v w t) _
  refine zk_T.adv 5 (f' := (9, [(0, .ref 40), (1, .ref 32)], [.int (v 40 1), .ref 41, .ref 32])) (h' := zH v w t) rfl ?_
  rw [show (v 40 1) = nI p from hp]
  refine zk_T.adv 2 (f' := (12, [(0, .ref 40), (1, .ref 32)], [.int ((nI p) * 16), .ref 41, .ref 32])) (h' := zH v w t) rfl ?_
  rw [show (nI p) * 16 = nI (p * 16) from pk_mul p 16]
  refine zk_T.cl (v := none) (h' := zH (zb v 41 (zr_save (v 41) (p * 16) (v 32 0) (v 32 1) (v 33) (v 34) (v 35))) w t) rfl (zs_saveB (v := v) (p * 16) (by omega)) ?_
  show zk_T zk_mt zk_ex Ls xs zm_155 (15, [(0, .ref 40), (1, .ref 32)], []) (zH (zb v 41 (zr_save (v 41) (p * 16) (v 32 0) (v 32 1) (v 33) (v 34) (v 35))) w t) _
  refine zk_T.adv 3 (f' := (20, [(0, .ref 40), (1, .ref 32)], [.int (v 40 1), .ref 40])) (h' := zH (zb v 41 (zr_save (v 41) (p * 16) (v 32 0) (v 32 1) (v 33) (v 34) (v 35))) w t) rfl ?_
  rw [show (v 40 1) = nI p from hp]
  refine zk_T.adv 2 (f' := (22, [(0, .ref 40), (1, .ref 32)], [.int ((nI p) + 1), .ref 40])) (h' := zH (zb v 41 (zr_save (v 41) (p * 16) (v 32 0) (v 32 1) (v 33) (v 34) (v 35))) w t) rfl ?_
  rw [show (nI p) + 1 = nI (p + 1) from nI_add p 1]
  refine zk_T.adv 1 (f' := (24, [(0, .ref 40), (1, .ref 32)], [.int 16, .int (nI (p + 1)), .ref 40])) (h' := zH (zb v 41 (zr_save (v 41) (p * 16) (v 32 0) (v 32 1) (v 33) (v 34) (v 35))) w t) rfl ?_
  refine zk_T.ob (f' := (25, [(0, .ref 40), (1, .ref 32)], [.int ((nI (p + 1)) - (nI (p + 1)) / 16 * 16), .ref 40])) (h' := zH (zb v 41 (zr_save (v 41) (p * 16) (v 32 0) (v 32 1) (v 33) (v 34) (v 35))) w t) rfl (by decide) ?_
  rw [show (nI (p + 1)) - (nI (p + 1)) / 16 * 16 = nI ((p + 1) % 16) from pk_rem (a := p + 1) (d := 16) (by omega) (by decide) (by decide)]
  refine zk_T.adv 4 (f' := (33, [(0, .ref 40), (1, .ref 32)], [.int (v 40 2), .ref 40])) (h' := zH (zb (zb v 40 (upd (v 40) 1 (nI ((p + 1) % 16)))) 41 (zr_save (v 41) (p * 16) (v 32 0) (v 32 1) (v 33) (v 34) (v 35))) w t) rfl ?_
  rw [show (v 40 2) = nI k from hk]
  refine zk_T.adv 2 (f' := (35, [(0, .ref 40), (1, .ref 32)], [.int ((nI k) + 1), .ref 40])) (h' := zH (zb (zb v 40 (upd (v 40) 1 (nI ((p + 1) % 16)))) 41 (zr_save (v 41) (p * 16) (v 32 0) (v 32 1) (v 33) (v 34) (v 35))) w t) rfl ?_
  rw [show (nI k) + 1 = nI (k + 1) from nI_add k 1]
  refine zk_T.adv 1 (f' := (37, [(0, .ref 40), (1, .ref 32)], [.int 16, .int (nI (k + 1)), .ref 40])) (h' := zH (zb (zb v 40 (upd (v 40) 1 (nI ((p + 1) % 16)))) 41 (zr_save (v 41) (p * 16) (v 32 0) (v 32 1) (v 33) (v 34) (v 35))) w t) rfl ?_
  refine zk_T.cl (v := some (.int (zr_min (nI (k + 1)) 16))) (h' := zH (zb (zb v 40 (upd (v 40) 1 (nI ((p + 1) % 16)))) 41 (zr_save (v 41) (p * 16) (v 32 0) (v 32 1) (v 33) (v 34) (v 35))) w t) rfl (zs_min (nI (k + 1)) 16) ?_
  show zk_T zk_mt zk_ex Ls xs zm_155 (40, [(0, .ref 40), (1, .ref 32)], [.int (zr_min (nI (k + 1)) 16), .ref 40]) (zH (zb (zb v 40 (upd (v 40) 1 (nI ((p + 1) % 16)))) 41 (zr_save (v 41) (p * 16) (v 32 0) (v 32 1) (v 33) (v 34) (v 35))) w t) _
  rw [show zr_min (nI (k + 1)) 16 = nI (min (k + 1) 16) from zr_min16 hk16]
  refine zk_T.adv 1 (f' := (43, [(0, .ref 40), (1, .ref 32)], [])) (h' := zH (zb (zb v 40 (upd (upd (v 40) 1 (nI ((p + 1) % 16))) 2 (nI (min (k + 1) 16)))) 41 (zr_save (v 41) (p * 16) (v 32 0) (v 32 1) (v 33) (v 34) (v 35))) w t) rfl ?_
  exact zk_T.rt rfl rfl (by rfl)
/-- BasketKeep$History.stepBack -/
theorem zs_stepBack_0 (hk : v 40 2 = 0) : zk_Cr zk_mt zk_ex Ls xs 157 [.ref 40, .ref 32] (zH v w t) (some (.int 0), zH v w t) := by
  refine zk_Cr.of (K := zm_157) rfl rfl rfl ?_
  show zk_T zk_mt zk_ex Ls xs zm_157 (0, [(0, .ref 40), (1, .ref 32)], []) (zH v w t) _
  refine zk_T.adv 2 (f' := (4, [(0, .ref 40), (1, .ref 32)], [.int (v 40 2)])) (h' := zH v w t) rfl ?_
  rw [show (v 40 2) = 0 from hk]
  refine zk_T.br (f1 := (9, [(0, .ref 40), (1, .ref 32)], [])) (f2 := (7, [(0, .ref 40), (1, .ref 32)], [])) rfl (fun c1 => absurd (of_decide_eq_true c1) (by decide)) (fun c1 => ?_)
  refine zk_T.adv 1 (f' := (8, [(0, .ref 40), (1, .ref 32)], [.int 0])) (h' := zH v w t) rfl ?_
  exact zk_T.rt rfl rfl (by rfl)
theorem zk_pred16 {p : Nat} (h : p < 16) : nI (p + 16) - 1 - (nI (p + 16) - 1) / 16 * 16 = nI ((p + 15) % 16) := by
  have e : nI (p + 16) - 1 = nI (p + 15) := nI_pred (p + 15)
  rw [e]
  exact pk_rem (a := p + 15) (d := 16) (by omega) (by decide) (by decide)
/-- BasketKeep$History.stepBack -/
theorem zs_stepBack_s (p : Nat) (hp : v 40 1 = nI p) (hp16 : p < 16) (k : Nat) (hk : v 40 2 = nI (k + 1)) (hk16 : k < 16) (b : Nat) (hbb : b = ((p + 15) % 16) * 16) : zk_Cr zk_mt zk_ex Ls xs 157 [.ref 40, .ref 32] (zH v w t) (some (.int 1), zH (zb (zb (zb (zb (zb v 32 (upd (upd (v 32) 0 (v 41 b)) 1 (v 41 (b + 1)))) 33 (va_cpy (v 41) (v 33) (b + 2) 0 4)) 34 (va_cpy (v 41) (v 34) (b + 2 + 4) 0 5)) 35 (va_cpy (v 41) (v 35) (b + 2 + 4 + 5) 0 5)) 40 (upd (upd (v 40) 1 (nI ((p + 15) % 16))) 2 (nI k))) w t) := by
  refine zk_Cr.of (K := zm_157) rfl rfl rfl ?_
  show zk_T zk_mt zk_ex Ls xs zm_157 (0, [(0, .ref 40), (1, .ref 32)], []) (zH v w t) _
  refine zk_T.adv 2 (f' := (4, [(0, .ref 40), (1, .ref 32)], [.int (v 40 2)])) (h' := zH v w t) rfl ?_
  rw [show (v 40 2) = nI (k + 1) from hk]
  refine zk_T.br (f1 := (9, [(0, .ref 40), (1, .ref 32)], [])) (f2 := (7, [(0, .ref 40), (1, .ref 32)], [])) rfl (fun c1 => ?_) (fun c1 => absurd (show (0 : Int32) < nI (k + 1) from nI_lt (a := 0) (by omega) (by omega)) (of_decide_eq_false c1))
  refine zk_T.adv 3 (f' := (14, [(0, .ref 40), (1, .ref 32)], [.int (v 40 2), .ref 40])) (h' := zH v w t) rfl ?_
  rw [show (v 40 2) = nI (k + 1) from hk]
  refine zk_T.adv 2 (f' := (16, [(0, .ref 40), (1, .ref 32)], [.int ((nI (k + 1)) - 1), .ref 40])) (h' := zH v w t) rfl ?_
  rw [show (nI (k + 1)) - 1 = nI k from nI_pred k]
  refine zk_T.adv 4 (f' := (24, [(0, .ref 40), (1, .ref 32)], [.int (v 40 1), .ref 40])) (h' := zH (zb v 40 (upd (v 40) 2 (nI k))) w t) rfl ?_
  rw [show (v 40 1) = nI p from hp]
  refine zk_T.adv 2 (f' := (27, [(0, .ref 40), (1, .ref 32)], [.int ((nI p) + 16), .ref 40])) (h' := zH (zb v 40 (upd (v 40) 2 (nI k))) w t) rfl ?_
  rw [show (nI p) + 16 = nI (p + 16) from nI_add p 16]
  refine zk_T.adv 3 (f' := (31, [(0, .ref 40), (1, .ref 32)], [.int 16, .int ((nI (p + 16)) - 1), .ref 40])) (h' := zH (zb v 40 (upd (v 40) 2 (nI k))) w t) rfl ?_
  refine zk_T.ob (f' := (32, [(0, .ref 40), (1, .ref 32)], [.int (((nI (p + 16)) - 1) - ((nI (p + 16)) - 1) / 16 * 16), .ref 40])) (h' := zH (zb v 40 (upd (v 40) 2 (nI k))) w t) rfl (by decide) ?_
  rw [show ((nI (p + 16)) - 1) - ((nI (p + 16)) - 1) / 16 * 16 = nI ((p + 15) % 16) from zk_pred16 hp16]
  refine zk_T.adv 8 (f' := (47, [(0, .ref 40), (1, .ref 32)], [.int ((nI ((p + 15) % 16)) * 16), .ref 41, .ref 32])) (h' := zH (zb v 40 (upd (upd (v 40) 1 (nI ((p + 15) % 16))) 2 (nI k))) w t) rfl ?_
  rw [show (nI ((p + 15) % 16)) * 16 = nI (((p + 15) % 16) * 16) from pk_mul ((p + 15) % 16) 16]
  rw [show nI (((p + 15) % 16) * 16) = nI b from (by rw [hbb])]
  refine zk_T.cl (v := none) (h' := zH (zb (zb (zb (zb (zb v 32 (upd (upd (v 32) 0 (v 41 b)) 1 (v 41 (b + 1)))) 33 (va_cpy (v 41) (v 33) (b + 2) 0 4)) 34 (va_cpy (v 41) (v 34) (b + 2 + 4) 0 5)) 35 (va_cpy (v 41) (v 35) (b + 2 + 4 + 5) 0 5)) 40 (upd (upd (v 40) 1 (nI ((p + 15) % 16))) 2 (nI k))) w t) rfl (zs_loadB (v := (zb v 40 (upd (upd (v 40) 1 (nI ((p + 15) % 16))) 2 (nI k)))) b (by omega)) ?_
  show zk_T zk_mt zk_ex Ls xs zm_157 (50, [(0, .ref 40), (1, .ref 32)], []) (zH (zb (zb (zb (zb (zb v 32 (upd (upd (v 32) 0 (v 41 b)) 1 (v 41 (b + 1)))) 33 (va_cpy (v 41) (v 33) (b + 2) 0 4)) 34 (va_cpy (v 41) (v 34) (b + 2 + 4) 0 5)) 35 (va_cpy (v 41) (v 35) (b + 2 + 4 + 5) 0 5)) 40 (upd (upd (v 40) 1 (nI ((p + 15) % 16))) 2 (nI k))) w t) _
  refine zk_T.adv 1 (f' := (51, [(0, .ref 40), (1, .ref 32)], [.int 1])) (h' := zH (zb (zb (zb (zb (zb v 32 (upd (upd (v 32) 0 (v 41 b)) 1 (v 41 (b + 1)))) 33 (va_cpy (v 41) (v 33) (b + 2) 0 4)) 34 (va_cpy (v 41) (v 34) (b + 2 + 4) 0 5)) 35 (va_cpy (v 41) (v 35) (b + 2 + 4 + 5) 0 5)) 40 (upd (upd (v 40) 1 (nI ((p + 15) % 16))) 2 (nI k))) w t) rfl ?_
  exact zk_T.rt rfl rfl (by rfl)
/-- BasketKeep$History.isFullOfImages -/
theorem zs_isFull_t (hi : v 40 4 = 3) : zk_Cr zk_mt zk_ex Ls xs 28 [.ref 40] (zH v w t) (some (.int 1), zH v w t) := by
  refine zk_Cr.of (K := zm_28) rfl rfl rfl ?_
  show zk_T zk_mt zk_ex Ls xs zm_28 (0, [(0, .ref 40)], []) (zH v w t) _
  refine zk_T.adv 2 (f' := (4, [(0, .ref 40)], [.int (v 40 4)])) (h' := zH v w t) rfl ?_
  rw [show (v 40 4) = 3 from hi]
  refine zk_T.adv 1 (f' := (5, [(0, .ref 40)], [.int 3, .int 3])) (h' := zH v w t) rfl ?_
  refine zk_T.br (f1 := (12, [(0, .ref 40)], [])) (f2 := (8, [(0, .ref 40)], [])) rfl (fun c1 => absurd (of_decide_eq_true c1) (by decide)) (fun c1 => ?_)
  refine zk_T.adv 2 (f' := (13, [(0, .ref 40)], [.int 1])) (h' := zH v w t) rfl ?_
  exact zk_T.rt rfl rfl (by rfl)
/-- BasketKeep$History.isFullOfImages -/
theorem zs_isFull_f (i : Nat) (hi : v 40 4 = nI i) (hi3 : i < 3) : zk_Cr zk_mt zk_ex Ls xs 28 [.ref 40] (zH v w t) (some (.int 0), zH v w t) := by
  refine zk_Cr.of (K := zm_28) rfl rfl rfl ?_
  show zk_T zk_mt zk_ex Ls xs zm_28 (0, [(0, .ref 40)], []) (zH v w t) _
  refine zk_T.adv 2 (f' := (4, [(0, .ref 40)], [.int (v 40 4)])) (h' := zH v w t) rfl ?_
  rw [show (v 40 4) = nI i from hi]
  refine zk_T.adv 1 (f' := (5, [(0, .ref 40)], [.int 3, .int (nI i)])) (h' := zH v w t) rfl ?_
  refine zk_T.br (f1 := (12, [(0, .ref 40)], [])) (f2 := (8, [(0, .ref 40)], [])) rfl (fun c1 => ?_) (fun c1 => absurd (show nI i < nI 3 from nI_lt hi3 (by decide)) (of_decide_eq_false c1))
  refine zk_T.adv 1 (f' := (13, [(0, .ref 40)], [.int 0])) (h' := zH v w t) rfl ?_
  exact zk_T.rt rfl rfl (by rfl)
/-- BasketKeep$History.keepImage -/
theorem zs_keepImage (i : Nat) (hi : v 40 4 = nI i) (hi3 : i < 3) : zk_Cr zk_mt zk_ex Ls xs 154 [.ref 40, .ref 32] (zH v w t) (some (.int (nI i)), zH (zb (zb v 40 (upd (v 40) 4 (nI (i + 1)))) 42 (zr_save (v 42) (i * 16) (v 32 0) (v 32 1) (v 33) (v 34) (v 35))) w t) := by
  refine zk_Cr.of (K := zm_154) rfl rfl rfl ?_
  show zk_T zk_mt zk_ex Ls xs zm_154 (0, [(0, .ref 40), (1, .ref 32)], []) (zH v w t) _
  refine zk_T.adv 2 (f' := (4, [(0, .ref 40), (1, .ref 32)], [.int (v 40 4)])) (h' := zH v w t) rfl ?_
  rw [show (v 40 4) = nI i from hi]
  refine zk_T.adv 1 (f' := (5, [(0, .ref 40), (1, .ref 32)], [.int 3, .int (nI i)])) (h' := zH v w t) rfl ?_
  refine zk_T.br (f1 := (33, [(0, .ref 40), (1, .ref 32)], [])) (f2 := (8, [(0, .ref 40), (1, .ref 32)], [])) rfl (fun c1 => absurd (of_decide_eq_true c1) (show ¬ nI 3 ≤ nI i from nI_ge hi3 (by decide))) (fun c1 => ?_)
  refine zk_T.adv 5 (f' := (17, [(0, .ref 40), (1, .ref 32)], [.int (v 40 4), .ref 42, .ref 32])) (h' := zH v w t) rfl ?_
  rw [show (v 40 4) = nI i from hi]
  refine zk_T.adv 2 (f' := (20, [(0, .ref 40), (1, .ref 32)], [.int ((nI i) * 16), .ref 42, .ref 32])) (h' := zH v w t) rfl ?_
  rw [show (nI i) * 16 = nI (i * 16) from pk_mul i 16]
  refine zk_T.cl (v := none) (h' := zH (zb v 42 (zr_save (v 42) (i * 16) (v 32 0) (v 32 1) (v 33) (v 34) (v 35))) w t) rfl (zs_saveK (v := v) (i * 16) (by omega)) ?_
  show zk_T zk_mt zk_ex Ls xs zm_154 (23, [(0, .ref 40), (1, .ref 32)], []) (zH (zb v 42 (zr_save (v 42) (i * 16) (v 32 0) (v 32 1) (v 33) (v 34) (v 35))) w t) _
  refine zk_T.adv 3 (f' := (28, [(0, .ref 40), (1, .ref 32)], [.int (v 40 4), .ref 40])) (h' := zH (zb v 42 (zr_save (v 42) (i * 16) (v 32 0) (v 32 1) (v 33) (v 34) (v 35))) w t) rfl ?_
  rw [show (v 40 4) = nI i from hi]
  refine zk_T.adv 2 (f' := (30, [(0, .ref 40), (1, .ref 32)], [.int ((nI i) + 1), .ref 40])) (h' := zH (zb v 42 (zr_save (v 42) (i * 16) (v 32 0) (v 32 1) (v 33) (v 34) (v 35))) w t) rfl ?_
  rw [show (nI i) + 1 = nI (i + 1) from nI_add i 1]
  refine zk_T.adv 5 (f' := (39, [(0, .ref 40), (1, .ref 32)], [.int ((nI (i + 1)) - 1)])) (h' := zH (zb (zb v 40 (upd (v 40) 4 (nI (i + 1)))) 42 (zr_save (v 42) (i * 16) (v 32 0) (v 32 1) (v 33) (v 34) (v 35))) w t) rfl ?_
  rw [show (nI (i + 1)) - 1 = nI i from nI_pred i]
  exact zk_T.rt rfl rfl (by rfl)
/-- BasketKeep$History.returnTo -/
theorem zs_returnTo_t (x : Int32) (h : x < 0 ∨ v 40 4 ≤ x) : zk_Cr zk_mt zk_ex Ls xs 156 [.ref 40, .int x, .ref 32] (zH v w t) (some (.int 0), zH v w t) := by
  refine zk_Cr.of (K := zm_156) rfl rfl rfl ?_
  show zk_T zk_mt zk_ex Ls xs zm_156 (0, [(0, .ref 40), (1, .int x), (2, .ref 32)], []) (zH v w t) _
  refine zk_T.adv 1 (f' := (1, [(0, .ref 40), (1, .int x), (2, .ref 32)], [.int x])) (h' := zH v w t) rfl ?_
  refine zk_T.br (f1 := (12, [(0, .ref 40), (1, .int x), (2, .ref 32)], [])) (f2 := (4, [(0, .ref 40), (1, .int x), (2, .ref 32)], [])) rfl (fun c1 => ?_) (fun c1 => ?_)
  · have c1 : x < 0 := of_decide_eq_true c1
    refine zk_T.adv 1 (f' := (13, [(0, .ref 40), (1, .int x), (2, .ref 32)], [.int 0])) (h' := zH v w t) rfl ?_
    exact zk_T.rt rfl rfl rfl
  · have c1 : ¬ (x < 0) := of_decide_eq_false c1
    refine zk_T.adv 3 (f' := (9, [(0, .ref 40), (1, .int x), (2, .ref 32)], [.int (v 40 4), .int x])) (h' := zH v w t) rfl ?_
    refine zk_T.br (f1 := (14, [(0, .ref 40), (1, .int x), (2, .ref 32)], [])) (f2 := (12, [(0, .ref 40), (1, .int x), (2, .ref 32)], [])) rfl (fun c2 => ?_) (fun c2 => ?_)
    · have c2 : x < (v 40 4) := of_decide_eq_true c2
      exact absurd h (by rintro (h | h); exact c1 h; exact absurd c2 (Int32.not_lt.mpr h))
    · have c2 : ¬ (x < (v 40 4)) := of_decide_eq_false c2
      refine zk_T.adv 1 (f' := (13, [(0, .ref 40), (1, .int x), (2, .ref 32)], [.int 0])) (h' := zH v w t) rfl ?_
      exact zk_T.rt rfl rfl rfl
/-- BasketKeep$History.returnTo -/
theorem zs_returnTo_f (i j : Nat) (hi : v 40 4 = nI i) (hi3 : i ≤ 3) (hj : j < i) : zk_Cr zk_mt zk_ex Ls xs 156 [.ref 40, .int (nI j), .ref 32] (zH v w t) (some (.int 1), zH (zb (zb (zb (zb (zb v 32 (upd (upd (v 32) 0 (v 42 (j * 16))) 1 (v 42 ((j * 16) + 1)))) 33 (va_cpy (v 42) (v 33) ((j * 16) + 2) 0 4)) 34 (va_cpy (v 42) (v 34) ((j * 16) + 2 + 4) 0 5)) 35 (va_cpy (v 42) (v 35) ((j * 16) + 2 + 4 + 5) 0 5)) 40 (upd (v 40) 2 0)) w t) := by
  refine zk_Cr.of (K := zm_156) rfl rfl rfl ?_
  show zk_T zk_mt zk_ex Ls xs zm_156 (0, [(0, .ref 40), (1, .int (nI j)), (2, .ref 32)], []) (zH v w t) _
  refine zk_T.adv 1 (f' := (1, [(0, .ref 40), (1, .int (nI j)), (2, .ref 32)], [.int (nI j)])) (h' := zH v w t) rfl ?_
  refine zk_T.br (f1 := (12, [(0, .ref 40), (1, .int (nI j)), (2, .ref 32)], [])) (f2 := (4, [(0, .ref 40), (1, .int (nI j)), (2, .ref 32)], [])) rfl (fun c1 => absurd (of_decide_eq_true c1) (nI_pos (by omega))) (fun c1 => ?_)
  refine zk_T.adv 3 (f' := (9, [(0, .ref 40), (1, .int (nI j)), (2, .ref 32)], [.int (v 40 4), .int (nI j)])) (h' := zH v w t) rfl ?_
  rw [show (v 40 4) = nI i from hi]
  refine zk_T.br (f1 := (14, [(0, .ref 40), (1, .int (nI j)), (2, .ref 32)], [])) (f2 := (12, [(0, .ref 40), (1, .int (nI j)), (2, .ref 32)], [])) rfl (fun c2 => ?_) (fun c2 => absurd (nI_lt hj (by omega)) (of_decide_eq_false c2))
  refine zk_T.adv 6 (f' := (23, [(0, .ref 40), (1, .int (nI j)), (2, .ref 32)], [.int ((nI j) * 16), .ref 42, .ref 32])) (h' := zH v w t) rfl ?_
  rw [show (nI j) * 16 = nI (j * 16) from pk_mul j 16]
  refine zk_T.cl (v := none) (h' := zH (zb (zb (zb (zb v 32 (upd (upd (v 32) 0 (v 42 (j * 16))) 1 (v 42 ((j * 16) + 1)))) 33 (va_cpy (v 42) (v 33) ((j * 16) + 2) 0 4)) 34 (va_cpy (v 42) (v 34) ((j * 16) + 2 + 4) 0 5)) 35 (va_cpy (v 42) (v 35) ((j * 16) + 2 + 4 + 5) 0 5)) w t) rfl (zs_loadK (v := v) (j * 16) (by omega)) ?_
  show zk_T zk_mt zk_ex Ls xs zm_156 (26, [(0, .ref 40), (1, .int (nI j)), (2, .ref 32)], []) (zH (zb (zb (zb (zb v 32 (upd (upd (v 32) 0 (v 42 (j * 16))) 1 (v 42 ((j * 16) + 1)))) 33 (va_cpy (v 42) (v 33) ((j * 16) + 2) 0 4)) 34 (va_cpy (v 42) (v 34) ((j * 16) + 2 + 4) 0 5)) 35 (va_cpy (v 42) (v 35) ((j * 16) + 2 + 4 + 5) 0 5)) w t) _
  refine zk_T.adv 4 (f' := (32, [(0, .ref 40), (1, .int (nI j)), (2, .ref 32)], [.int 1])) (h' := zH (zb (zb (zb (zb (zb v 32 (upd (upd (v 32) 0 (v 42 (j * 16))) 1 (v 42 ((j * 16) + 1)))) 33 (va_cpy (v 42) (v 33) ((j * 16) + 2) 0 4)) 34 (va_cpy (v 42) (v 34) ((j * 16) + 2 + 4) 0 5)) 35 (va_cpy (v 42) (v 35) ((j * 16) + 2 + 4 + 5) 0 5)) 40 (upd (v 40) 2 0)) w t) rfl ?_
  exact zk_T.rt rfl rfl (by rfl)
end Z33
