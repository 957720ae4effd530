/-! contracts: the class's acts -/
section Z34
variable {Ls : Nat} {xs : Nat → Int32} {v : Nat → Nat → Int32} {w : Nat → Nat → Int64} {t : zk_H}
/-- BasketKeep.moveGood -/
theorem zs_moveGood (p : Nat) (hp : v 40 1 = nI p) (hp16 : p < 16) (k : Nat) (hk : v 40 2 = nI k) (hk16 : k ≤ 16) (a : Nat) (ha : a < 4) (to : Int32) : zk_Cr zk_mt zk_ex Ls xs 192 [.ref 0, .int (nI a), .int to] (zH v w t) (some (.int (v 33 a)), zH (zb (zb (zb v 33 (upd (v 33) a to)) 40 (upd (upd (v 40) 1 (nI ((p + 1) % 16))) 2 (nI (min (k + 1) 16)))) 41 (zr_save (v 41) (p * 16) (v 32 0) (v 32 1) (v 33) (v 34) (v 35))) w t) := by
  refine zk_Cr.of (K := zm_192) rfl rfl rfl ?_
  show zk_T zk_mt zk_ex Ls xs zm_192 (0, [(0, .ref 0), (1, .int (nI a)), (2, .int to)], []) (zH v w t) _
  refine zk_T.adv 4 (f' := (8, [(0, .ref 0), (1, .int (nI a)), (2, .int to)], [.ref 32, .ref 40])) (h' := zH v w t) rfl ?_
  refine zk_T.cl (v := none) (h' := zH (zb (zb v 40 (upd (upd (v 40) 1 (nI ((p + 1) % 16))) 2 (nI (min (k + 1) 16)))) 41 (zr_save (v 41) (p * 16) (v 32 0) (v 32 1) (v 33) (v 34) (v 35))) w t) rfl (zs_remember (v := v) p hp hp16 k hk hk16) ?_
  show zk_T zk_mt zk_ex Ls xs zm_192 (11, [(0, .ref 0), (1, .int (nI a)), (2, .int to)], []) (zH (zb (zb v 40 (upd (upd (v 40) 1 (nI ((p + 1) % 16))) 2 (nI (min (k + 1) 16)))) 41 (zr_save (v 41) (p * 16) (v 32 0) (v 32 1) (v 33) (v 34) (v 35))) w t) _
  refine zk_T.adv 4 (f' := (19, [(0, .ref 0), (1, .int (nI a)), (2, .int to)], [.int (nI a), .ref 33])) (h' := zH (zb (zb v 40 (upd (upd (v 40) 1 (nI ((p + 1) % 16))) 2 (nI (min (k + 1) 16)))) 41 (zr_save (v 41) (p * 16) (v 32 0) (v 32 1) (v 33) (v 34) (v 35))) w t) rfl ?_
  refine zk_T.ob (f' := (20, [(0, .ref 0), (1, .int (nI a)), (2, .int to)], [.int (v 33 (nI a).toNatClampNeg)])) (h' := zH (zb (zb v 40 (upd (upd (v 40) 1 (nI ((p + 1) % 16))) 2 (nI (min (k + 1) 16)))) 41 (zr_save (v 41) (p * 16) (v 32 0) (v 32 1) (v 33) (v 34) (v 35))) w t) rfl (by first | exact zk_inN (by omega) (by decide) | decide) ?_
  rw [nI_clamp (show a < 2 ^ 31 by omega)]
  refine zk_T.adv 6 (f' := (30, [(0, .ref 0), (1, .int (nI a)), (2, .int to), (3, .int (v 33 a))], [.int to, .int (nI a), .ref 33])) (h' := zH (zb (zb v 40 (upd (upd (v 40) 1 (nI ((p + 1) % 16))) 2 (nI (min (k + 1) 16)))) 41 (zr_save (v 41) (p * 16) (v 32 0) (v 32 1) (v 33) (v 34) (v 35))) w t) rfl ?_
  refine zk_T.ob (f' := (31, [(0, .ref 0), (1, .int (nI a)), (2, .int to), (3, .int (v 33 a))], [])) (h' := zH (zb (zb (zb v 33 (upd (v 33) (nI a).toNatClampNeg to)) 40 (upd (upd (v 40) 1 (nI ((p + 1) % 16))) 2 (nI (min (k + 1) 16)))) 41 (zr_save (v 41) (p * 16) (v 32 0) (v 32 1) (v 33) (v 34) (v 35))) w t) rfl (by first | exact zk_inN (by omega) (by decide) | decide) ?_
  rw [nI_clamp (show a < 2 ^ 31 by omega)]
  refine zk_T.adv 1 (f' := (32, [(0, .ref 0), (1, .int (nI a)), (2, .int to), (3, .int (v 33 a))], [.int (v 33 a)])) (h' := zH (zb (zb (zb v 33 (upd (v 33) a to)) 40 (upd (upd (v 40) 1 (nI ((p + 1) % 16))) 2 (nI (min (k + 1) 16)))) 41 (zr_save (v 41) (p * 16) (v 32 0) (v 32 1) (v 33) (v 34) (v 35))) w t) rfl ?_
  exact zk_T.rt rfl rfl (by rfl)
/-- BasketKeep.put -/
theorem zK_put_t (x : Int32) (hx : v 0 2 = 0 ∨ x < 0 ∨ v 20 8 ≤ x) (y : Int32) : zk_Cr zk_mt zk_ex Ls xs 210 [.ref 0, .int x, .int y] (zH v w t) (some (.int (-1)), zH (zb v 0 (upd (v 0) 10 1)) w t) := by
  refine zk_Cr.of (K := zm_210) rfl rfl rfl ?_
  show zk_T zk_mt zk_ex Ls xs zm_210 (0, [(0, .ref 0), (1, .int x), (2, .int y)], []) (zH v w t) _
  refine zk_T.adv 2 (f' := (2, [(0, .ref 0), (1, .int x), (2, .int y)], [.int x, .ref 0])) (h' := zH v w t) rfl ?_
  refine zk_T.cl (v := some (.int 1)) (h' := zH (zb v 0 (upd (v 0) 10 1)) w t) rfl (zs_noGood_t (v := v) x hx) ?_
  show zk_T zk_mt zk_ex Ls xs zm_210 (5, [(0, .ref 0), (1, .int x), (2, .int y)], [.int 1]) (zH (zb v 0 (upd (v 0) 10 1)) w t) _
  refine zk_T.br (f1 := (8, [(0, .ref 0), (1, .int x), (2, .int y)], [])) (f2 := (58, [(0, .ref 0), (1, .int x), (2, .int y)], [])) rfl (fun c1 => absurd (of_decide_eq_true c1) (by decide)) (fun c1 => ?_)
  refine zk_T.adv 1 (f' := (59, [(0, .ref 0), (1, .int x), (2, .int y)], [.int (-1)])) (h' := zH (zb v 0 (upd (v 0) 10 1)) w t) rfl ?_
  exact zk_T.rt rfl rfl (by rfl)
/-- BasketKeep.put -/
theorem zK_put_m (hst : v 0 2 = 1) (Gn : Nat) (hG : v 20 8 = nI Gn) (h4 : Gn ≤ 4) (a : Nat) (ha : a < Gn) (x : Int32) (hx : v 0 2 = 0 ∨ x < 0 ∨ v 20 4 ≤ x) : zk_Cr zk_mt zk_ex Ls xs 210 [.ref 0, .int (nI a), .int x] (zH v w t) (some (.int (-1)), zH (zb v 0 (upd (v 0) 10 1)) w t) := by
  refine zk_Cr.of (K := zm_210) rfl rfl rfl ?_
  show zk_T zk_mt zk_ex Ls xs zm_210 (0, [(0, .ref 0), (1, .int (nI a)), (2, .int x)], []) (zH v w t) _
  refine zk_T.adv 2 (f' := (2, [(0, .ref 0), (1, .int (nI a)), (2, .int x)], [.int (nI a), .ref 0])) (h' := zH v w t) rfl ?_
  refine zk_T.cl (v := some (.int 0)) (h' := zH (zb v 0 (upd (v 0) 10 0)) w t) rfl (zs_noGood_f (v := v) hst Gn hG h4 a ha) ?_
  show zk_T zk_mt zk_ex Ls xs zm_210 (5, [(0, .ref 0), (1, .int (nI a)), (2, .int x)], [.int 0]) (zH (zb v 0 (upd (v 0) 10 0)) w t) _
  refine zk_T.br (f1 := (8, [(0, .ref 0), (1, .int (nI a)), (2, .int x)], [])) (f2 := (58, [(0, .ref 0), (1, .int (nI a)), (2, .int x)], [])) rfl (fun c1 => ?_) (fun c1 => absurd (by decide) (of_decide_eq_false c1))
  refine zk_T.adv 2 (f' := (10, [(0, .ref 0), (1, .int (nI a)), (2, .int x)], [.int x, .ref 0])) (h' := zH (zb v 0 (upd (v 0) 10 0)) w t) rfl ?_
  refine zk_T.cl (v := some (.int 1)) (h' := zH (zb v 0 (upd (v 0) 10 1)) w t) rfl (zs_noMaker_t (v := (zb v 0 (upd (v 0) 10 0))) x hx) ?_
  show zk_T zk_mt zk_ex Ls xs zm_210 (13, [(0, .ref 0), (1, .int (nI a)), (2, .int x)], [.int 1]) (zH (zb v 0 (upd (v 0) 10 1)) w t) _
  refine zk_T.br (f1 := (16, [(0, .ref 0), (1, .int (nI a)), (2, .int x)], [])) (f2 := (58, [(0, .ref 0), (1, .int (nI a)), (2, .int x)], [])) rfl (fun c2 => absurd (of_decide_eq_true c2) (by decide)) (fun c2 => ?_)
  refine zk_T.adv 1 (f' := (59, [(0, .ref 0), (1, .int (nI a)), (2, .int x)], [.int (-1)])) (h' := zH (zb v 0 (upd (v 0) 10 1)) w t) rfl ?_
  exact zk_T.rt rfl rfl (by rfl)
/-- BasketKeep.put -/
theorem zK_put_5a (hst : v 0 2 = 1) (Gn : Nat) (hG : v 20 8 = nI Gn) (h4 : Gn ≤ 4) (a : Nat) (ha : a < Gn) (Mn : Nat) (hM : v 20 4 = nI Mn) (h5 : Mn ≤ 5) (e : Nat) (he : e < Mn) (hlo : zr_isLost (v 32 1) (nI a) = 1) : zk_Cr zk_mt zk_ex Ls xs 210 [.ref 0, .int (nI a), .int (nI e)] (zH v w t) (some (.int (-1)), zH (zb v 0 (upd (v 0) 10 5)) w t) := by
  refine zk_Cr.of (K := zm_210) rfl rfl rfl ?_
  show zk_T zk_mt zk_ex Ls xs zm_210 (0, [(0, .ref 0), (1, .int (nI a)), (2, .int (nI e))], []) (zH v w t) _
  refine zk_T.adv 2 (f' := (2, [(0, .ref 0), (1, .int (nI a)), (2, .int (nI e))], [.int (nI a), .ref 0])) (h' := zH v w t) rfl ?_
  refine zk_T.cl (v := some (.int 0)) (h' := zH (zb v 0 (upd (v 0) 10 0)) w t) rfl (zs_noGood_f (v := v) hst Gn hG h4 a ha) ?_
  show zk_T zk_mt zk_ex Ls xs zm_210 (5, [(0, .ref 0), (1, .int (nI a)), (2, .int (nI e))], [.int 0]) (zH (zb v 0 (upd (v 0) 10 0)) w t) _
  refine zk_T.br (f1 := (8, [(0, .ref 0), (1, .int (nI a)), (2, .int (nI e))], [])) (f2 := (58, [(0, .ref 0), (1, .int (nI a)), (2, .int (nI e))], [])) rfl (fun c1 => ?_) (fun c1 => absurd (by decide) (of_decide_eq_false c1))
  refine zk_T.adv 2 (f' := (10, [(0, .ref 0), (1, .int (nI a)), (2, .int (nI e))], [.int (nI e), .ref 0])) (h' := zH (zb v 0 (upd (v 0) 10 0)) w t) rfl ?_
  refine zk_T.cl (v := some (.int 0)) (h' := zH (zb v 0 (upd (v 0) 10 0)) w t) rfl (zs_noMaker_f (v := (zb v 0 (upd (v 0) 10 0))) hst Mn hM h5 e he) ?_
  show zk_T zk_mt zk_ex Ls xs zm_210 (13, [(0, .ref 0), (1, .int (nI a)), (2, .int (nI e))], [.int 0]) (zH (zb v 0 (upd (v 0) 10 0)) w t) _
  refine zk_T.br (f1 := (16, [(0, .ref 0), (1, .int (nI a)), (2, .int (nI e))], [])) (f2 := (58, [(0, .ref 0), (1, .int (nI a)), (2, .int (nI e))], [])) rfl (fun c2 => ?_) (fun c2 => absurd (by decide) (of_decide_eq_false c2))
  refine zk_T.adv 4 (f' := (22, [(0, .ref 0), (1, .int (nI a)), (2, .int (nI e))], [.int (nI a), .ref 32, .ref 0])) (h' := zH (zb v 0 (upd (v 0) 10 0)) w t) rfl ?_
  refine zk_T.cl (v := some (.int 1)) (h' := zH (zb v 0 (upd (v 0) 10 0)) w t) rfl (by have e := zs_isLost_now (v := (zb v 0 (upd (v 0) 10 0))) (w := w) (t := t) (Ls := Ls) (xs := xs) (nI a); rw [show zr_isLost ((zb v 0 (upd (v 0) 10 0)) 32 1) (nI a) = 1 from hlo] at e; exact e) ?_
  show zk_T zk_mt zk_ex Ls xs zm_210 (25, [(0, .ref 0), (1, .int (nI a)), (2, .int (nI e))], [.int 1, .ref 0]) (zH (zb v 0 (upd (v 0) 10 0)) w t) _
  refine zk_T.br (f1 := (28, [(0, .ref 0), (1, .int (nI a)), (2, .int (nI e))], [.ref 0])) (f2 := (46, [(0, .ref 0), (1, .int (nI a)), (2, .int (nI e))], [.ref 0])) rfl (fun c3 => absurd (of_decide_eq_true c3) (by decide)) (fun c3 => ?_)
  refine zk_T.adv 3 (f' := (52, [(0, .ref 0), (1, .int (nI a)), (2, .int (nI e))], [.int 5, .int 1, .ref 0])) (h' := zH (zb v 0 (upd (v 0) 10 0)) w t) rfl ?_
  refine zk_T.cl (v := some (.int 1)) (h' := zH (zb v 0 (upd (v 0) 10 5)) w t) rfl (zs_ref1 5) ?_
  show zk_T zk_mt zk_ex Ls xs zm_210 (55, [(0, .ref 0), (1, .int (nI a)), (2, .int (nI e))], [.int 1]) (zH (zb v 0 (upd (v 0) 10 5)) w t) _
  refine zk_T.br (f1 := (60, [(0, .ref 0), (1, .int (nI a)), (2, .int (nI e))], [])) (f2 := (58, [(0, .ref 0), (1, .int (nI a)), (2, .int (nI e))], [])) rfl (fun c4 => absurd (of_decide_eq_true c4) (by decide)) (fun c4 => ?_)
  refine zk_T.adv 1 (f' := (59, [(0, .ref 0), (1, .int (nI a)), (2, .int (nI e))], [.int (-1)])) (h' := zH (zb v 0 (upd (v 0) 10 5)) w t) rfl ?_
  exact zk_T.rt rfl rfl (by rfl)
/-- BasketKeep.put -/
theorem zK_put_5b (hst : v 0 2 = 1) (Gn : Nat) (hG : v 20 8 = nI Gn) (h4 : Gn ≤ 4) (a : Nat) (ha : a < Gn) (Mn : Nat) (hM : v 20 4 = nI Mn) (h5 : Mn ≤ 5) (e : Nat) (he : e < Mn) (hlo : zr_isLost (v 32 1) (nI a) = 0) (hgi : ¬ zr_goodIn Gn (v 33) (nI e) < 0) : zk_Cr zk_mt zk_ex Ls xs 210 [.ref 0, .int (nI a), .int (nI e)] (zH v w t) (some (.int (-1)), zH (zb v 0 (upd (v 0) 10 5)) w t) := by
  refine zk_Cr.of (K := zm_210) rfl rfl rfl ?_
  show zk_T zk_mt zk_ex Ls xs zm_210 (0, [(0, .ref 0), (1, .int (nI a)), (2, .int (nI e))], []) (zH v w t) _
  refine zk_T.adv 2 (f' := (2, [(0, .ref 0), (1, .int (nI a)), (2, .int (nI e))], [.int (nI a), .ref 0])) (h' := zH v w t) rfl ?_
  refine zk_T.cl (v := some (.int 0)) (h' := zH (zb v 0 (upd (v 0) 10 0)) w t) rfl (zs_noGood_f (v := v) hst Gn hG h4 a ha) ?_
  show zk_T zk_mt zk_ex Ls xs zm_210 (5, [(0, .ref 0), (1, .int (nI a)), (2, .int (nI e))], [.int 0]) (zH (zb v 0 (upd (v 0) 10 0)) w t) _
  refine zk_T.br (f1 := (8, [(0, .ref 0), (1, .int (nI a)), (2, .int (nI e))], [])) (f2 := (58, [(0, .ref 0), (1, .int (nI a)), (2, .int (nI e))], [])) rfl (fun c1 => ?_) (fun c1 => absurd (by decide) (of_decide_eq_false c1))
  refine zk_T.adv 2 (f' := (10, [(0, .ref 0), (1, .int (nI a)), (2, .int (nI e))], [.int (nI e), .ref 0])) (h' := zH (zb v 0 (upd (v 0) 10 0)) w t) rfl ?_
  refine zk_T.cl (v := some (.int 0)) (h' := zH (zb v 0 (upd (v 0) 10 0)) w t) rfl (zs_noMaker_f (v := (zb v 0 (upd (v 0) 10 0))) hst Mn hM h5 e he) ?_
  show zk_T zk_mt zk_ex Ls xs zm_210 (13, [(0, .ref 0), (1, .int (nI a)), (2, .int (nI e))], [.int 0]) (zH (zb v 0 (upd (v 0) 10 0)) w t) _
  refine zk_T.br (f1 := (16, [(0, .ref 0), (1, .int (nI a)), (2, .int (nI e))], [])) (f2 := (58, [(0, .ref 0), (1, .int (nI a)), (2, .int (nI e))], [])) rfl (fun c2 => ?_) (fun c2 => absurd (by decide) (of_decide_eq_false c2))
  refine zk_T.adv 4 (f' := (22, [(0, .ref 0), (1, .int (nI a)), (2, .int (nI e))], [.int (nI a), .ref 32, .ref 0])) (h' := zH (zb v 0 (upd (v 0) 10 0)) w t) rfl ?_
  refine zk_T.cl (v := some (.int 0)) (h' := zH (zb v 0 (upd (v 0) 10 0)) w t) rfl (by have e := zs_isLost_now (v := (zb v 0 (upd (v 0) 10 0))) (w := w) (t := t) (Ls := Ls) (xs := xs) (nI a); rw [show zr_isLost ((zb v 0 (upd (v 0) 10 0)) 32 1) (nI a) = 0 from hlo] at e; exact e) ?_
  show zk_T zk_mt zk_ex Ls xs zm_210 (25, [(0, .ref 0), (1, .int (nI a)), (2, .int (nI e))], [.int 0, .ref 0]) (zH (zb v 0 (upd (v 0) 10 0)) w t) _
  refine zk_T.br (f1 := (28, [(0, .ref 0), (1, .int (nI a)), (2, .int (nI e))], [.ref 0])) (f2 := (46, [(0, .ref 0), (1, .int (nI a)), (2, .int (nI e))], [.ref 0])) rfl (fun c3 => ?_) (fun c3 => absurd (by decide) (of_decide_eq_false c3))
  refine zk_T.adv 6 (f' := (40, [(0, .ref 0), (1, .int (nI a)), (2, .int (nI e))], [.int (v 20 8), .int (nI e), .ref 32, .ref 0])) (h' := zH (zb v 0 (upd (v 0) 10 0)) w t) rfl ?_
  rw [show (v 20 8) = nI Gn from hG]
  refine zk_T.cl (v := some (.int (zr_goodIn Gn (v 33) (nI e)))) (h' := zH (zb v 0 (upd (v 0) 10 0)) w t) rfl (zs_goodIn (v := (zb v 0 (upd (v 0) 10 0))) Gn h4 (nI e)) ?_
  show zk_T zk_mt zk_ex Ls xs zm_210 (43, [(0, .ref 0), (1, .int (nI a)), (2, .int (nI e))], [.int (zr_goodIn Gn (v 33) (nI e)), .ref 0]) (zH (zb v 0 (upd (v 0) 10 0)) w t) _
  refine zk_T.br (f1 := (50, [(0, .ref 0), (1, .int (nI a)), (2, .int (nI e))], [.ref 0])) (f2 := (46, [(0, .ref 0), (1, .int (nI a)), (2, .int (nI e))], [.ref 0])) rfl (fun c4 => absurd (of_decide_eq_true c4) hgi) (fun c4 => ?_)
  refine zk_T.adv 3 (f' := (52, [(0, .ref 0), (1, .int (nI a)), (2, .int (nI e))], [.int 5, .int 1, .ref 0])) (h' := zH (zb v 0 (upd (v 0) 10 0)) w t) rfl ?_
  refine zk_T.cl (v := some (.int 1)) (h' := zH (zb v 0 (upd (v 0) 10 5)) w t) rfl (zs_ref1 5) ?_
  show zk_T zk_mt zk_ex Ls xs zm_210 (55, [(0, .ref 0), (1, .int (nI a)), (2, .int (nI e))], [.int 1]) (zH (zb v 0 (upd (v 0) 10 5)) w t) _
  refine zk_T.br (f1 := (60, [(0, .ref 0), (1, .int (nI a)), (2, .int (nI e))], [])) (f2 := (58, [(0, .ref 0), (1, .int (nI a)), (2, .int (nI e))], [])) rfl (fun c5 => absurd (of_decide_eq_true c5) (by decide)) (fun c5 => ?_)
  refine zk_T.adv 1 (f' := (59, [(0, .ref 0), (1, .int (nI a)), (2, .int (nI e))], [.int (-1)])) (h' := zH (zb v 0 (upd (v 0) 10 5)) w t) rfl ?_
  exact zk_T.rt rfl rfl (by rfl)
/-- BasketKeep.put -/
theorem zK_put_f (hst : v 0 2 = 1) (Gn : Nat) (hG : v 20 8 = nI Gn) (h4 : Gn ≤ 4) (a : Nat) (ha : a < Gn) (Mn : Nat) (hM : v 20 4 = nI Mn) (h5 : Mn ≤ 5) (e : Nat) (he : e < Mn) (hlo : zr_isLost (v 32 1) (nI a) = 0) (hgi : zr_goodIn Gn (v 33) (nI e) < 0) (p : Nat) (hp : v 40 1 = nI p) (hp16 : p < 16) (k : Nat) (hk : v 40 2 = nI k) (hk16 : k ≤ 16) : zk_Cr zk_mt zk_ex Ls xs 210 [.ref 0, .int (nI a), .int (nI e)] (zH v w t) (some (.int (v 33 a)), zH (zb (zb (zb (zb v 0 (upd (v 0) 10 0)) 33 (upd (v 33) a (nI e))) 40 (upd (upd (v 40) 1 (nI ((p + 1) % 16))) 2 (nI (min (k + 1) 16)))) 41 (zr_save (v 41) (p * 16) (v 32 0) (v 32 1) (v 33) (v 34) (v 35))) w t) := by
  refine zk_Cr.of (K := zm_210) rfl rfl rfl ?_
  show zk_T zk_mt zk_ex Ls xs zm_210 (0, [(0, .ref 0), (1, .int (nI a)), (2, .int (nI e))], []) (zH v w t) _
  refine zk_T.adv 2 (f' := (2, [(0, .ref 0), (1, .int (nI a)), (2, .int (nI e))], [.int (nI a), .ref 0])) (h' := zH v w t) rfl ?_
  refine zk_T.cl (v := some (.int 0)) (h' := zH (zb v 0 (upd (v 0) 10 0)) w t) rfl (zs_noGood_f (v := v) hst Gn hG h4 a ha) ?_
  show zk_T zk_mt zk_ex Ls xs zm_210 (5, [(0, .ref 0), (1, .int (nI a)), (2, .int (nI e))], [.int 0]) (zH (zb v 0 (upd (v 0) 10 0)) w t) _
  refine zk_T.br (f1 := (8, [(0, .ref 0), (1, .int (nI a)), (2, .int (nI e))], [])) (f2 := (58, [(0, .ref 0), (1, .int (nI a)), (2, .int (nI e))], [])) rfl (fun c1 => ?_) (fun c1 => absurd (by decide) (of_decide_eq_false c1))
  refine zk_T.adv 2 (f' := (10, [(0, .ref 0), (1, .int (nI a)), (2, .int (nI e))], [.int (nI e), .ref 0])) (h' := zH (zb v 0 (upd (v 0) 10 0)) w t) rfl ?_
  refine zk_T.cl (v := some (.int 0)) (h' := zH (zb v 0 (upd (v 0) 10 0)) w t) rfl (zs_noMaker_f (v := (zb v 0 (upd (v 0) 10 0))) hst Mn hM h5 e he) ?_
  show zk_T zk_mt zk_ex Ls xs zm_210 (13, [(0, .ref 0), (1, .int (nI a)), (2, .int (nI e))], [.int 0]) (zH (zb v 0 (upd (v 0) 10 0)) w t) _
  refine zk_T.br (f1 := (16, [(0, .ref 0), (1, .int (nI a)), (2, .int (nI e))], [])) (f2 := (58, [(0, .ref 0), (1, .int (nI a)), (2, .int (nI e))], [])) rfl (fun c2 => ?_) (fun c2 => absurd (by decide) (of_decide_eq_false c2))
  refine zk_T.adv 4 (f' := (22, [(0, .ref 0), (1, .int (nI a)), (2, .int (nI e))], [.int (nI a), .ref 32, .ref 0])) (h' := zH (zb v 0 (upd (v 0) 10 0)) w t) rfl ?_
  refine zk_T.cl (v := some (.int 0)) (h' := zH (zb v 0 (upd (v 0) 10 0)) w t) rfl (by have e := zs_isLost_now (v := (zb v 0 (upd (v 0) 10 0))) (w := w) (t := t) (Ls := Ls) (xs := xs) (nI a); rw [show zr_isLost ((zb v 0 (upd (v 0) 10 0)) 32 1) (nI a) = 0 from hlo] at e; exact e) ?_
  show zk_T zk_mt zk_ex Ls xs zm_210 (25, [(0, .ref 0), (1, .int (nI a)), (2, .int (nI e))], [.int 0, .ref 0]) (zH (zb v 0 (upd (v 0) 10 0)) w t) _
  refine zk_T.br (f1 := (28, [(0, .ref 0), (1, .int (nI a)), (2, .int (nI e))], [.ref 0])) (f2 := (46, [(0, .ref 0), (1, .int (nI a)), (2, .int (nI e))], [.ref 0])) rfl (fun c3 => ?_) (fun c3 => absurd (by decide) (of_decide_eq_false c3))
  refine zk_T.adv 6 (f' := (40, [(0, .ref 0), (1, .int (nI a)), (2, .int (nI e))], [.int (v 20 8), .int (nI e), .ref 32, .ref 0])) (h' := zH (zb v 0 (upd (v 0) 10 0)) w t) rfl ?_
  rw [show (v 20 8) = nI Gn from hG]
  refine zk_T.cl (v := some (.int (zr_goodIn Gn (v 33) (nI e)))) (h' := zH (zb v 0 (upd (v 0) 10 0)) w t) rfl (zs_goodIn (v := (zb v 0 (upd (v 0) 10 0))) Gn h4 (nI e)) ?_
  show zk_T zk_mt zk_ex Ls xs zm_210 (43, [(0, .ref 0), (1, .int (nI a)), (2, .int (nI e))], [.int (zr_goodIn Gn (v 33) (nI e)), .ref 0]) (zH (zb v 0 (upd (v 0) 10 0)) w t) _
  refine zk_T.br (f1 := (50, [(0, .ref 0), (1, .int (nI a)), (2, .int (nI e))], [.ref 0])) (f2 := (46, [(0, .ref 0), (1, .int (nI a)), (2, .int (nI e))], [.ref 0])) rfl (fun c4 => ?_) (fun c4 => absurd hgi (of_decide_eq_false c4))
  refine zk_T.adv 2 (f' := (52, [(0, .ref 0), (1, .int (nI a)), (2, .int (nI e))], [.int 5, .int 0, .ref 0])) (h' := zH (zb v 0 (upd (v 0) 10 0)) w t) rfl ?_
  refine zk_T.cl (v := some (.int 0)) (h' := zH (zb v 0 (upd (v 0) 10 0)) w t) rfl (zs_ref0 5) ?_
  show zk_T zk_mt zk_ex Ls xs zm_210 (55, [(0, .ref 0), (1, .int (nI a)), (2, .int (nI e))], [.int 0]) (zH (zb v 0 (upd (v 0) 10 0)) w t) _
  refine zk_T.br (f1 := (60, [(0, .ref 0), (1, .int (nI a)), (2, .int (nI e))], [])) (f2 := (58, [(0, .ref 0), (1, .int (nI a)), (2, .int (nI e))], [])) rfl (fun c5 => ?_) (fun c5 => absurd (by decide) (of_decide_eq_false c5))
  refine zk_T.adv 3 (f' := (63, [(0, .ref 0), (1, .int (nI a)), (2, .int (nI e))], [.int (nI e), .int (nI a), .ref 0])) (h' := zH (zb v 0 (upd (v 0) 10 0)) w t) rfl ?_
  refine zk_T.cl (v := some (.int (v 33 a))) (h' := zH (zb (zb (zb (zb v 0 (upd (v 0) 10 0)) 33 (upd (v 33) a (nI e))) 40 (upd (upd (v 40) 1 (nI ((p + 1) % 16))) 2 (nI (min (k + 1) 16)))) 41 (zr_save (v 41) (p * 16) (v 32 0) (v 32 1) (v 33) (v 34) (v 35))) w t) rfl (zs_moveGood (v := (zb v 0 (upd (v 0) 10 0))) p hp hp16 k hk hk16 a (by omega) (nI e)) ?_
  show zk_T zk_mt zk_ex Ls xs zm_210 (66, [(0, .ref 0), (1, .int (nI a)), (2, .int (nI e))], [.int (v 33 a)]) (zH (zb (zb (zb (zb v 0 (upd (v 0) 10 0)) 33 (upd (v 33) a (nI e))) 40 (upd (upd (v 40) 1 (nI ((p + 1) % 16))) 2 (nI (min (k + 1) 16)))) 41 (zr_save (v 41) (p * 16) (v 32 0) (v 32 1) (v 33) (v 34) (v 35))) w t) _
  exact zk_T.rt rfl rfl (by rfl)
/-- BasketKeep.take -/
theorem zK_take_t (x : Int32) (hx : v 0 2 = 0 ∨ x < 0 ∨ v 20 8 ≤ x) : zk_Cr zk_mt zk_ex Ls xs 211 [.ref 0, .int x] (zH v w t) (some (.int (-1)), zH (zb v 0 (upd (v 0) 10 1)) w t) := by
  refine zk_Cr.of (K := zm_211) rfl rfl rfl ?_
  show zk_T zk_mt zk_ex Ls xs zm_211 (0, [(0, .ref 0), (1, .int x)], []) (zH v w t) _
  refine zk_T.adv 2 (f' := (2, [(0, .ref 0), (1, .int x)], [.int x, .ref 0])) (h' := zH v w t) rfl ?_
  refine zk_T.cl (v := some (.int 1)) (h' := zH (zb v 0 (upd (v 0) 10 1)) w t) rfl (zs_noGood_t (v := v) x hx) ?_
  show zk_T zk_mt zk_ex Ls xs zm_211 (5, [(0, .ref 0), (1, .int x)], [.int 1]) (zH (zb v 0 (upd (v 0) 10 1)) w t) _
  refine zk_T.br (f1 := (8, [(0, .ref 0), (1, .int x)], [])) (f2 := (33, [(0, .ref 0), (1, .int x)], [])) rfl (fun c1 => absurd (of_decide_eq_true c1) (by decide)) (fun c1 => ?_)
  refine zk_T.adv 2 (f' := (44, [(0, .ref 0), (1, .int x)], [.int (-1)])) (h' := zH (zb v 0 (upd (v 0) 10 1)) w t) rfl ?_
  exact zk_T.rt rfl rfl (by rfl)
/-- BasketKeep.take -/
theorem zK_take_5 (hst : v 0 2 = 1) (Gn : Nat) (hG : v 20 8 = nI Gn) (h4 : Gn ≤ 4) (a : Nat) (ha : a < Gn) (hli : v 33 a < 0) : zk_Cr zk_mt zk_ex Ls xs 211 [.ref 0, .int (nI a)] (zH v w t) (some (.int (-1)), zH (zb v 0 (upd (v 0) 10 5)) w t) := by
  refine zk_Cr.of (K := zm_211) rfl rfl rfl ?_
  show zk_T zk_mt zk_ex Ls xs zm_211 (0, [(0, .ref 0), (1, .int (nI a))], []) (zH v w t) _
  refine zk_T.adv 2 (f' := (2, [(0, .ref 0), (1, .int (nI a))], [.int (nI a), .ref 0])) (h' := zH v w t) rfl ?_
  refine zk_T.cl (v := some (.int 0)) (h' := zH (zb v 0 (upd (v 0) 10 0)) w t) rfl (zs_noGood_f (v := v) hst Gn hG h4 a ha) ?_
  show zk_T zk_mt zk_ex Ls xs zm_211 (5, [(0, .ref 0), (1, .int (nI a))], [.int 0]) (zH (zb v 0 (upd (v 0) 10 0)) w t) _
  refine zk_T.br (f1 := (8, [(0, .ref 0), (1, .int (nI a))], [])) (f2 := (33, [(0, .ref 0), (1, .int (nI a))], [])) rfl (fun c1 => ?_) (fun c1 => absurd (by decide) (of_decide_eq_false c1))
  refine zk_T.adv 5 (f' := (17, [(0, .ref 0), (1, .int (nI a))], [.int (nI a), .ref 33, .ref 0])) (h' := zH (zb v 0 (upd (v 0) 10 0)) w t) rfl ?_
  refine zk_T.ob (f' := (18, [(0, .ref 0), (1, .int (nI a))], [.int (v 33 (nI a).toNatClampNeg), .ref 0])) (h' := zH (zb v 0 (upd (v 0) 10 0)) w t) rfl (by first | exact zk_inN (by omega) (by decide) | decide) ?_
  rw [nI_clamp (show a < 2 ^ 31 by omega)]
  refine zk_T.br (f1 := (25, [(0, .ref 0), (1, .int (nI a))], [.ref 0])) (f2 := (21, [(0, .ref 0), (1, .int (nI a))], [.ref 0])) rfl (fun c2 => absurd (of_decide_eq_true c2) (Int32.not_le.mpr hli)) (fun c2 => ?_)
  refine zk_T.adv 3 (f' := (27, [(0, .ref 0), (1, .int (nI a))], [.int 5, .int 1, .ref 0])) (h' := zH (zb v 0 (upd (v 0) 10 0)) w t) rfl ?_
  refine zk_T.cl (v := some (.int 1)) (h' := zH (zb v 0 (upd (v 0) 10 5)) w t) rfl (zs_ref1 5) ?_
  show zk_T zk_mt zk_ex Ls xs zm_211 (30, [(0, .ref 0), (1, .int (nI a))], [.int 1]) (zH (zb v 0 (upd (v 0) 10 5)) w t) _
  refine zk_T.br (f1 := (37, [(0, .ref 0), (1, .int (nI a))], [])) (f2 := (33, [(0, .ref 0), (1, .int (nI a))], [])) rfl (fun c3 => absurd (of_decide_eq_true c3) (by decide)) (fun c3 => ?_)
  refine zk_T.adv 2 (f' := (44, [(0, .ref 0), (1, .int (nI a))], [.int (-1)])) (h' := zH (zb v 0 (upd (v 0) 10 5)) w t) rfl ?_
  exact zk_T.rt rfl rfl (by rfl)
/-- BasketKeep.take -/
theorem zK_take_f (hst : v 0 2 = 1) (Gn : Nat) (hG : v 20 8 = nI Gn) (h4 : Gn ≤ 4) (a : Nat) (ha : a < Gn) (hli : ¬ v 33 a < 0) (p : Nat) (hp : v 40 1 = nI p) (hp16 : p < 16) (k : Nat) (hk : v 40 2 = nI k) (hk16 : k ≤ 16) : zk_Cr zk_mt zk_ex Ls xs 211 [.ref 0, .int (nI a)] (zH v w t) (some (.int (v 33 a)), zH (zb (zb (zb (zb v 0 (upd (v 0) 10 0)) 33 (upd (v 33) a (-2))) 40 (upd (upd (v 40) 1 (nI ((p + 1) % 16))) 2 (nI (min (k + 1) 16)))) 41 (zr_save (v 41) (p * 16) (v 32 0) (v 32 1) (v 33) (v 34) (v 35))) w t) := by
  refine zk_Cr.of (K := zm_211) rfl rfl rfl ?_
  show zk_T zk_mt zk_ex Ls xs zm_211 (0, [(0, .ref 0), (1, .int (nI a))], []) (zH v w t) _
  refine zk_T.adv 2 (f' := (2, [(0, .ref 0), (1, .int (nI a))], [.int (nI a), .ref 0])) (h' := zH v w t) rfl ?_
  refine zk_T.cl (v := some (.int 0)) (h' := zH (zb v 0 (upd (v 0) 10 0)) w t) rfl (zs_noGood_f (v := v) hst Gn hG h4 a ha) ?_
  show zk_T zk_mt zk_ex Ls xs zm_211 (5, [(0, .ref 0), (1, .int (nI a))], [.int 0]) (zH (zb v 0 (upd (v 0) 10 0)) w t) _
  refine zk_T.br (f1 := (8, [(0, .ref 0), (1, .int (nI a))], [])) (f2 := (33, [(0, .ref 0), (1, .int (nI a))], [])) rfl (fun c1 => ?_) (fun c1 => absurd (by decide) (of_decide_eq_false c1))
  refine zk_T.adv 5 (f' := (17, [(0, .ref 0), (1, .int (nI a))], [.int (nI a), .ref 33, .ref 0])) (h' := zH (zb v 0 (upd (v 0) 10 0)) w t) rfl ?_
  refine zk_T.ob (f' := (18, [(0, .ref 0), (1, .int (nI a))], [.int (v 33 (nI a).toNatClampNeg), .ref 0])) (h' := zH (zb v 0 (upd (v 0) 10 0)) w t) rfl (by first | exact zk_inN (by omega) (by decide) | decide) ?_
  rw [nI_clamp (show a < 2 ^ 31 by omega)]
  refine zk_T.br (f1 := (25, [(0, .ref 0), (1, .int (nI a))], [.ref 0])) (f2 := (21, [(0, .ref 0), (1, .int (nI a))], [.ref 0])) rfl (fun c2 => ?_) (fun c2 => absurd (Int32.not_lt.mp hli) (of_decide_eq_false c2))
  refine zk_T.adv 2 (f' := (27, [(0, .ref 0), (1, .int (nI a))], [.int 5, .int 0, .ref 0])) (h' := zH (zb v 0 (upd (v 0) 10 0)) w t) rfl ?_
  refine zk_T.cl (v := some (.int 0)) (h' := zH (zb v 0 (upd (v 0) 10 0)) w t) rfl (zs_ref0 5) ?_
  show zk_T zk_mt zk_ex Ls xs zm_211 (30, [(0, .ref 0), (1, .int (nI a))], [.int 0]) (zH (zb v 0 (upd (v 0) 10 0)) w t) _
  refine zk_T.br (f1 := (37, [(0, .ref 0), (1, .int (nI a))], [])) (f2 := (33, [(0, .ref 0), (1, .int (nI a))], [])) rfl (fun c3 => ?_) (fun c3 => absurd (by decide) (of_decide_eq_false c3))
  refine zk_T.adv 3 (f' := (41, [(0, .ref 0), (1, .int (nI a))], [.int (-2), .int (nI a), .ref 0])) (h' := zH (zb v 0 (upd (v 0) 10 0)) w t) rfl ?_
  refine zk_T.cl (v := some (.int (v 33 a))) (h' := zH (zb (zb (zb (zb v 0 (upd (v 0) 10 0)) 33 (upd (v 33) a (-2))) 40 (upd (upd (v 40) 1 (nI ((p + 1) % 16))) 2 (nI (min (k + 1) 16)))) 41 (zr_save (v 41) (p * 16) (v 32 0) (v 32 1) (v 33) (v 34) (v 35))) w t) rfl (zs_moveGood (v := (zb v 0 (upd (v 0) 10 0))) p hp hp16 k hk hk16 a (by omega) (-2)) ?_
  show zk_T zk_mt zk_ex Ls xs zm_211 (44, [(0, .ref 0), (1, .int (nI a))], [.int (v 33 a)]) (zH (zb (zb (zb (zb v 0 (upd (v 0) 10 0)) 33 (upd (v 33) a (-2))) 40 (upd (upd (v 40) 1 (nI ((p + 1) % 16))) 2 (nI (min (k + 1) 16)))) 41 (zr_save (v 41) (p * 16) (v 32 0) (v 32 1) (v 33) (v 34) (v 35))) w t) _
  exact zk_T.rt rfl rfl (by rfl)
/-- BasketKeep.think -/
theorem zK_think_t (x : Int32) (hx : v 0 2 = 0 ∨ x < 0 ∨ v 20 4 ≤ x) (y : Int32) : zk_Cr zk_mt zk_ex Ls xs 196 [.ref 0, .int x, .int y] (zH v w t) (some (.int (-1)), zH (zb v 0 (upd (v 0) 10 1)) w t) := by
  refine zk_Cr.of (K := zm_196) rfl rfl rfl ?_
  show zk_T zk_mt zk_ex Ls xs zm_196 (0, [(0, .ref 0), (1, .int x), (2, .int y)], []) (zH v w t) _
  refine zk_T.adv 2 (f' := (2, [(0, .ref 0), (1, .int x), (2, .int y)], [.int x, .ref 0])) (h' := zH v w t) rfl ?_
  refine zk_T.cl (v := some (.int 1)) (h' := zH (zb v 0 (upd (v 0) 10 1)) w t) rfl (zs_noMaker_t (v := v) x hx) ?_
  show zk_T zk_mt zk_ex Ls xs zm_196 (5, [(0, .ref 0), (1, .int x), (2, .int y)], [.int 1]) (zH (zb v 0 (upd (v 0) 10 1)) w t) _
  refine zk_T.br (f1 := (8, [(0, .ref 0), (1, .int x), (2, .int y)], [])) (f2 := (16, [(0, .ref 0), (1, .int x), (2, .int y)], [])) rfl (fun c1 => absurd (of_decide_eq_true c1) (by decide)) (fun c1 => ?_)
  refine zk_T.adv 1 (f' := (17, [(0, .ref 0), (1, .int x), (2, .int y)], [.int (-1)])) (h' := zH (zb v 0 (upd (v 0) 10 1)) w t) rfl ?_
  exact zk_T.rt rfl rfl (by rfl)
/-- BasketKeep.think -/
theorem zK_think_d (hst : v 0 2 = 1) (Mn : Nat) (hM : v 20 4 = nI Mn) (h5 : Mn ≤ 5) (e : Nat) (he : e < Mn) (x : Int32) (hx : v 0 2 = 0 ∨ x < 0 ∨ v 20 1 ≤ x) : zk_Cr zk_mt zk_ex Ls xs 196 [.ref 0, .int (nI e), .int x] (zH v w t) (some (.int (-1)), zH (zb v 0 (upd (v 0) 10 1)) w t) := by
  refine zk_Cr.of (K := zm_196) rfl rfl rfl ?_
  show zk_T zk_mt zk_ex Ls xs zm_196 (0, [(0, .ref 0), (1, .int (nI e)), (2, .int x)], []) (zH v w t) _
  refine zk_T.adv 2 (f' := (2, [(0, .ref 0), (1, .int (nI e)), (2, .int x)], [.int (nI e), .ref 0])) (h' := zH v w t) rfl ?_
  refine zk_T.cl (v := some (.int 0)) (h' := zH (zb v 0 (upd (v 0) 10 0)) w t) rfl (zs_noMaker_f (v := v) hst Mn hM h5 e he) ?_
  show zk_T zk_mt zk_ex Ls xs zm_196 (5, [(0, .ref 0), (1, .int (nI e)), (2, .int x)], [.int 0]) (zH (zb v 0 (upd (v 0) 10 0)) w t) _
  refine zk_T.br (f1 := (8, [(0, .ref 0), (1, .int (nI e)), (2, .int x)], [])) (f2 := (16, [(0, .ref 0), (1, .int (nI e)), (2, .int x)], [])) rfl (fun c1 => ?_) (fun c1 => absurd (by decide) (of_decide_eq_false c1))
  refine zk_T.adv 2 (f' := (10, [(0, .ref 0), (1, .int (nI e)), (2, .int x)], [.int x, .ref 0])) (h' := zH (zb v 0 (upd (v 0) 10 0)) w t) rfl ?_
  refine zk_T.cl (v := some (.int 1)) (h' := zH (zb v 0 (upd (v 0) 10 1)) w t) rfl (zs_noDanger_t (v := (zb v 0 (upd (v 0) 10 0))) x hx) ?_
  show zk_T zk_mt zk_ex Ls xs zm_196 (13, [(0, .ref 0), (1, .int (nI e)), (2, .int x)], [.int 1]) (zH (zb v 0 (upd (v 0) 10 1)) w t) _
  refine zk_T.br (f1 := (18, [(0, .ref 0), (1, .int (nI e)), (2, .int x)], [])) (f2 := (16, [(0, .ref 0), (1, .int (nI e)), (2, .int x)], [])) rfl (fun c2 => absurd (of_decide_eq_true c2) (by decide)) (fun c2 => ?_)
  refine zk_T.adv 1 (f' := (17, [(0, .ref 0), (1, .int (nI e)), (2, .int x)], [.int (-1)])) (h' := zH (zb v 0 (upd (v 0) 10 1)) w t) rfl ?_
  exact zk_T.rt rfl rfl (by rfl)
/-- BasketKeep.think -/
theorem zK_think_f (hst : v 0 2 = 1) (Mn : Nat) (hM : v 20 4 = nI Mn) (h5 : Mn ≤ 5) (e : Nat) (he : e < Mn) (D : Nat) (hD : v 20 1 = nI D) (h8 : D ≤ 8) (d : Nat) (hd : d < D) (p : Nat) (hp : v 40 1 = nI p) (hp16 : p < 16) (k : Nat) (hk : v 40 2 = nI k) (hk16 : k ≤ 16) : zk_Cr zk_mt zk_ex Ls xs 196 [.ref 0, .int (nI e), .int (nI d)] (zH v w t) (some (.int ((upd (v 34) e ((v 34 e) ^^^ ((1 : Int32) <<< ((nI d) &&& 31)))) e)), zH (zb (zb (zb (zb v 0 (upd (v 0) 10 0)) 34 (upd (v 34) e ((v 34 e) ^^^ ((1 : Int32) <<< ((nI d) &&& 31))))) 40 (upd (upd (v 40) 1 (nI ((p + 1) % 16))) 2 (nI (min (k + 1) 16)))) 41 (zr_save (v 41) (p * 16) (v 32 0) (v 32 1) (v 33) (v 34) (v 35))) w t) := by
  refine zk_Cr.of (K := zm_196) rfl rfl rfl ?_
  show zk_T zk_mt zk_ex Ls xs zm_196 (0, [(0, .ref 0), (1, .int (nI e)), (2, .int (nI d))], []) (zH v w t) _
  refine zk_T.adv 2 (f' := (2, [(0, .ref 0), (1, .int (nI e)), (2, .int (nI d))], [.int (nI e), .ref 0])) (h' := zH v w t) rfl ?_
  refine zk_T.cl (v := some (.int 0)) (h' := zH (zb v 0 (upd (v 0) 10 0)) w t) rfl (zs_noMaker_f (v := v) hst Mn hM h5 e he) ?_
  show zk_T zk_mt zk_ex Ls xs zm_196 (5, [(0, .ref 0), (1, .int (nI e)), (2, .int (nI d))], [.int 0]) (zH (zb v 0 (upd (v 0) 10 0)) w t) _
  refine zk_T.br (f1 := (8, [(0, .ref 0), (1, .int (nI e)), (2, .int (nI d))], [])) (f2 := (16, [(0, .ref 0), (1, .int (nI e)), (2, .int (nI d))], [])) rfl (fun c1 => ?_) (fun c1 => absurd (by decide) (of_decide_eq_false c1))
  refine zk_T.adv 2 (f' := (10, [(0, .ref 0), (1, .int (nI e)), (2, .int (nI d))], [.int (nI d), .ref 0])) (h' := zH (zb v 0 (upd (v 0) 10 0)) w t) rfl ?_
  refine zk_T.cl (v := some (.int 0)) (h' := zH (zb v 0 (upd (v 0) 10 0)) w t) rfl (zs_noDanger_f (v := (zb v 0 (upd (v 0) 10 0))) hst D hD h8 d hd) ?_
  show zk_T zk_mt zk_ex Ls xs zm_196 (13, [(0, .ref 0), (1, .int (nI e)), (2, .int (nI d))], [.int 0]) (zH (zb v 0 (upd (v 0) 10 0)) w t) _
  refine zk_T.br (f1 := (18, [(0, .ref 0), (1, .int (nI e)), (2, .int (nI d))], [])) (f2 := (16, [(0, .ref 0), (1, .int (nI e)), (2, .int (nI d))], [])) rfl (fun c2 => ?_) (fun c2 => absurd (by decide) (of_decide_eq_false c2))
  refine zk_T.adv 4 (f' := (26, [(0, .ref 0), (1, .int (nI e)), (2, .int (nI d))], [.ref 32, .ref 40])) (h' := zH (zb v 0 (upd (v 0) 10 0)) w t) rfl ?_
  refine zk_T.cl (v := none) (h' := zH (zb (zb (zb v 0 (upd (v 0) 10 0)) 40 (upd (upd (v 40) 1 (nI ((p + 1) % 16))) 2 (nI (min (k + 1) 16)))) 41 (zr_save (v 41) (p * 16) (v 32 0) (v 32 1) (v 33) (v 34) (v 35))) w t) rfl (zs_remember (v := (zb v 0 (upd (v 0) 10 0))) p hp hp16 k hk hk16) ?_
  show zk_T zk_mt zk_ex Ls xs zm_196 (29, [(0, .ref 0), (1, .int (nI e)), (2, .int (nI d))], []) (zH (zb (zb (zb v 0 (upd (v 0) 10 0)) 40 (upd (upd (v 40) 1 (nI ((p + 1) % 16))) 2 (nI (min (k + 1) 16)))) 41 (zr_save (v 41) (p * 16) (v 32 0) (v 32 1) (v 33) (v 34) (v 35))) w t) _
  refine zk_T.adv 5 (f' := (38, [(0, .ref 0), (1, .int (nI e)), (2, .int (nI d))], [.int (nI e), .ref 34, .int (nI e), .ref 34])) (h' := zH (zb (zb (zb v 0 (upd (v 0) 10 0)) 40 (upd (upd (v 40) 1 (nI ((p + 1) % 16))) 2 (nI (min (k + 1) 16)))) 41 (zr_save (v 41) (p * 16) (v 32 0) (v 32 1) (v 33) (v 34) (v 35))) w t) rfl ?_
  refine zk_T.ob (f' := (39, [(0, .ref 0), (1, .int (nI e)), (2, .int (nI d))], [.int (v 34 (nI e).toNatClampNeg), .int (nI e), .ref 34])) (h' := zH (zb (zb (zb v 0 (upd (v 0) 10 0)) 40 (upd (upd (v 40) 1 (nI ((p + 1) % 16))) 2 (nI (min (k + 1) 16)))) 41 (zr_save (v 41) (p * 16) (v 32 0) (v 32 1) (v 33) (v 34) (v 35))) w t) rfl (by first | exact zk_inN (by omega) (by decide) | decide) ?_
  rw [nI_clamp (show e < 2 ^ 31 by omega)]
  refine zk_T.adv 4 (f' := (43, [(0, .ref 0), (1, .int (nI e)), (2, .int (nI d))], [.int ((v 34 e) ^^^ ((1 : Int32) <<< ((nI d) &&& 31))), .int (nI e), .ref 34])) (h' := zH (zb (zb (zb v 0 (upd (v 0) 10 0)) 40 (upd (upd (v 40) 1 (nI ((p + 1) % 16))) 2 (nI (min (k + 1) 16)))) 41 (zr_save (v 41) (p * 16) (v 32 0) (v 32 1) (v 33) (v 34) (v 35))) w t) rfl ?_
  refine zk_T.ob (f' := (44, [(0, .ref 0), (1, .int (nI e)), (2, .int (nI d))], [])) (h' := zH (zb (zb (zb (zb v 0 (upd (v 0) 10 0)) 34 (upd (v 34) (nI e).toNatClampNeg ((v 34 e) ^^^ ((1 : Int32) <<< ((nI d) &&& 31))))) 40 (upd (upd (v 40) 1 (nI ((p + 1) % 16))) 2 (nI (min (k + 1) 16)))) 41 (zr_save (v 41) (p * 16) (v 32 0) (v 32 1) (v 33) (v 34) (v 35))) w t) rfl (by first | exact zk_inN (by omega) (by decide) | decide) ?_
  rw [nI_clamp (show e < 2 ^ 31 by omega)]
  refine zk_T.adv 4 (f' := (52, [(0, .ref 0), (1, .int (nI e)), (2, .int (nI d))], [.int (nI e), .ref 34])) (h' := zH (zb (zb (zb (zb v 0 (upd (v 0) 10 0)) 34 (upd (v 34) e ((v 34 e) ^^^ ((1 : Int32) <<< ((nI d) &&& 31))))) 40 (upd (upd (v 40) 1 (nI ((p + 1) % 16))) 2 (nI (min (k + 1) 16)))) 41 (zr_save (v 41) (p * 16) (v 32 0) (v 32 1) (v 33) (v 34) (v 35))) w t) rfl ?_
  refine zk_T.ob (f' := (53, [(0, .ref 0), (1, .int (nI e)), (2, .int (nI d))], [.int ((upd (v 34) e ((v 34 e) ^^^ ((1 : Int32) <<< ((nI d) &&& 31)))) (nI e).toNatClampNeg)])) (h' := zH (zb (zb (zb (zb v 0 (upd (v 0) 10 0)) 34 (upd (v 34) e ((v 34 e) ^^^ ((1 : Int32) <<< ((nI d) &&& 31))))) 40 (upd (upd (v 40) 1 (nI ((p + 1) % 16))) 2 (nI (min (k + 1) 16)))) 41 (zr_save (v 41) (p * 16) (v 32 0) (v 32 1) (v 33) (v 34) (v 35))) w t) rfl (by first | exact zk_inN (by omega) (by decide) | decide) ?_
  rw [nI_clamp (show e < 2 ^ 31 by omega)]
  exact zk_T.rt rfl rfl (by rfl)
/-- BasketKeep.mend -/
theorem zK_mend_t (x : Int32) (hx : v 0 2 = 0 ∨ x < 0 ∨ v 20 4 ≤ x) : zk_Cr zk_mt zk_ex Ls xs 191 [.ref 0, .int x] (zH v w t) (some (.int 0), zH (zb v 0 (upd (v 0) 10 1)) w t) := by
  refine zk_Cr.of (K := zm_191) rfl rfl rfl ?_
  show zk_T zk_mt zk_ex Ls xs zm_191 (0, [(0, .ref 0), (1, .int x)], []) (zH v w t) _
  refine zk_T.adv 2 (f' := (2, [(0, .ref 0), (1, .int x)], [.int x, .ref 0])) (h' := zH v w t) rfl ?_
  refine zk_T.cl (v := some (.int 1)) (h' := zH (zb v 0 (upd (v 0) 10 1)) w t) rfl (zs_noMaker_t (v := v) x hx) ?_
  show zk_T zk_mt zk_ex Ls xs zm_191 (5, [(0, .ref 0), (1, .int x)], [.int 1]) (zH (zb v 0 (upd (v 0) 10 1)) w t) _
  refine zk_T.br (f1 := (8, [(0, .ref 0), (1, .int x)], [])) (f2 := (42, [(0, .ref 0), (1, .int x)], [])) rfl (fun c1 => absurd (of_decide_eq_true c1) (by decide)) (fun c1 => ?_)
  refine zk_T.adv 1 (f' := (43, [(0, .ref 0), (1, .int x)], [.int 0])) (h' := zH (zb v 0 (upd (v 0) 10 1)) w t) rfl ?_
  exact zk_T.rt rfl rfl (by rfl)
/-- BasketKeep.mend -/
theorem zK_mend_5 (hst : v 0 2 = 1) (Mn : Nat) (hM : v 20 4 = nI Mn) (h5 : Mn ≤ 5) (e : Nat) (he : e < Mn) (hla : v 35 e = v 24 e) : zk_Cr zk_mt zk_ex Ls xs 191 [.ref 0, .int (nI e)] (zH v w t) (some (.int 0), zH (zb v 0 (upd (v 0) 10 5)) w t) := by
  refine zk_Cr.of (K := zm_191) rfl rfl rfl ?_
  show zk_T zk_mt zk_ex Ls xs zm_191 (0, [(0, .ref 0), (1, .int (nI e))], []) (zH v w t) _
  refine zk_T.adv 2 (f' := (2, [(0, .ref 0), (1, .int (nI e))], [.int (nI e), .ref 0])) (h' := zH v w t) rfl ?_
  refine zk_T.cl (v := some (.int 0)) (h' := zH (zb v 0 (upd (v 0) 10 0)) w t) rfl (zs_noMaker_f (v := v) hst Mn hM h5 e he) ?_
  show zk_T zk_mt zk_ex Ls xs zm_191 (5, [(0, .ref 0), (1, .int (nI e))], [.int 0]) (zH (zb v 0 (upd (v 0) 10 0)) w t) _
  refine zk_T.br (f1 := (8, [(0, .ref 0), (1, .int (nI e))], [])) (f2 := (42, [(0, .ref 0), (1, .int (nI e))], [])) rfl (fun c1 => ?_) (fun c1 => absurd (by decide) (of_decide_eq_false c1))
  refine zk_T.adv 5 (f' := (17, [(0, .ref 0), (1, .int (nI e))], [.int (nI e), .ref 35, .ref 0])) (h' := zH (zb v 0 (upd (v 0) 10 0)) w t) rfl ?_
  refine zk_T.ob (f' := (18, [(0, .ref 0), (1, .int (nI e))], [.int (v 35 (nI e).toNatClampNeg), .ref 0])) (h' := zH (zb v 0 (upd (v 0) 10 0)) w t) rfl (by first | exact zk_inN (by omega) (by decide) | decide) ?_
  rw [nI_clamp (show e < 2 ^ 31 by omega)]
  refine zk_T.adv 4 (f' := (26, [(0, .ref 0), (1, .int (nI e))], [.int (nI e), .ref 24, .int (v 35 e), .ref 0])) (h' := zH (zb v 0 (upd (v 0) 10 0)) w t) rfl ?_
  refine zk_T.ob (f' := (27, [(0, .ref 0), (1, .int (nI e))], [.int (v 24 (nI e).toNatClampNeg), .int (v 35 e), .ref 0])) (h' := zH (zb v 0 (upd (v 0) 10 0)) w t) rfl (by first | exact zk_inN (by omega) (by decide) | decide) ?_
  rw [nI_clamp (show e < 2 ^ 31 by omega)]
  refine zk_T.br (f1 := (30, [(0, .ref 0), (1, .int (nI e))], [.ref 0])) (f2 := (34, [(0, .ref 0), (1, .int (nI e))], [.ref 0])) rfl (fun c2 => ?_) (fun c2 => absurd hla (of_decide_eq_false c2))
  refine zk_T.adv 3 (f' := (36, [(0, .ref 0), (1, .int (nI e))], [.int 5, .int 1, .ref 0])) (h' := zH (zb v 0 (upd (v 0) 10 0)) w t) rfl ?_
  refine zk_T.cl (v := some (.int 1)) (h' := zH (zb v 0 (upd (v 0) 10 5)) w t) rfl (zs_ref1 5) ?_
  show zk_T zk_mt zk_ex Ls xs zm_191 (39, [(0, .ref 0), (1, .int (nI e))], [.int 1]) (zH (zb v 0 (upd (v 0) 10 5)) w t) _
  refine zk_T.br (f1 := (44, [(0, .ref 0), (1, .int (nI e))], [])) (f2 := (42, [(0, .ref 0), (1, .int (nI e))], [])) rfl (fun c3 => absurd (of_decide_eq_true c3) (by decide)) (fun c3 => ?_)
  refine zk_T.adv 1 (f' := (43, [(0, .ref 0), (1, .int (nI e))], [.int 0])) (h' := zH (zb v 0 (upd (v 0) 10 5)) w t) rfl ?_
  exact zk_T.rt rfl rfl (by rfl)
/-- BasketKeep.mend -/
theorem zK_mend_f (hst : v 0 2 = 1) (Mn : Nat) (hM : v 20 4 = nI Mn) (h5 : Mn ≤ 5) (e : Nat) (he : e < Mn) (hla : ¬ v 35 e = v 24 e) (p : Nat) (hp : v 40 1 = nI p) (hp16 : p < 16) (k : Nat) (hk : v 40 2 = nI k) (hk16 : k ≤ 16) : zk_Cr zk_mt zk_ex Ls xs 191 [.ref 0, .int (nI e)] (zH v w t) (some (.int 1), zH (zb (zb (zb (zb v 0 (upd (v 0) 10 0)) 35 (upd (v 35) e (v 24 e))) 40 (upd (upd (v 40) 1 (nI ((p + 1) % 16))) 2 (nI (min (k + 1) 16)))) 41 (zr_save (v 41) (p * 16) (v 32 0) (v 32 1) (v 33) (v 34) (v 35))) w t) := by
  refine zk_Cr.of (K := zm_191) rfl rfl rfl ?_
  show zk_T zk_mt zk_ex Ls xs zm_191 (0, [(0, .ref 0), (1, .int (nI e))], []) (zH v w t) _
  refine zk_T.adv 2 (f' := (2, [(0, .ref 0), (1, .int (nI e))], [.int (nI e), .ref 0])) (h' := zH v w t) rfl ?_
  refine zk_T.cl (v := some (.int 0)) (h' := zH (zb v 0 (upd (v 0) 10 0)) w t) rfl (zs_noMaker_f (v := v) hst Mn hM h5 e he) ?_
  show zk_T zk_mt zk_ex Ls xs zm_191 (5, [(0, .ref 0), (1, .int (nI e))], [.int 0]) (zH (zb v 0 (upd (v 0) 10 0)) w t) _
  refine zk_T.br (f1 := (8, [(0, .ref 0), (1, .int (nI e))], [])) (f2 := (42, [(0, .ref 0), (1, .int (nI e))], [])) rfl (fun c1 => ?_) (fun c1 => absurd (by decide) (of_decide_eq_false c1))
  refine zk_T.adv 5 (f' := (17, [(0, .ref 0), (1, .int (nI e))], [.int (nI e), .ref 35, .ref 0])) (h' := zH (zb v 0 (upd (v 0) 10 0)) w t) rfl ?_
  refine zk_T.ob (f' := (18, [(0, .ref 0), (1, .int (nI e))], [.int (v 35 (nI e).toNatClampNeg), .ref 0])) (h' := zH (zb v 0 (upd (v 0) 10 0)) w t) rfl (by first | exact zk_inN (by omega) (by decide) | decide) ?_
  rw [nI_clamp (show e < 2 ^ 31 by omega)]
  refine zk_T.adv 4 (f' := (26, [(0, .ref 0), (1, .int (nI e))], [.int (nI e), .ref 24, .int (v 35 e), .ref 0])) (h' := zH (zb v 0 (upd (v 0) 10 0)) w t) rfl ?_
  refine zk_T.ob (f' := (27, [(0, .ref 0), (1, .int (nI e))], [.int (v 24 (nI e).toNatClampNeg), .int (v 35 e), .ref 0])) (h' := zH (zb v 0 (upd (v 0) 10 0)) w t) rfl (by first | exact zk_inN (by omega) (by decide) | decide) ?_
  rw [nI_clamp (show e < 2 ^ 31 by omega)]
  refine zk_T.br (f1 := (30, [(0, .ref 0), (1, .int (nI e))], [.ref 0])) (f2 := (34, [(0, .ref 0), (1, .int (nI e))], [.ref 0])) rfl (fun c2 => absurd (of_decide_eq_true c2) hla) (fun c2 => ?_)
  refine zk_T.adv 2 (f' := (36, [(0, .ref 0), (1, .int (nI e))], [.int 5, .int 0, .ref 0])) (h' := zH (zb v 0 (upd (v 0) 10 0)) w t) rfl ?_
  refine zk_T.cl (v := some (.int 0)) (h' := zH (zb v 0 (upd (v 0) 10 0)) w t) rfl (zs_ref0 5) ?_
  show zk_T zk_mt zk_ex Ls xs zm_191 (39, [(0, .ref 0), (1, .int (nI e))], [.int 0]) (zH (zb v 0 (upd (v 0) 10 0)) w t) _
  refine zk_T.br (f1 := (44, [(0, .ref 0), (1, .int (nI e))], [])) (f2 := (42, [(0, .ref 0), (1, .int (nI e))], [])) rfl (fun c3 => ?_) (fun c3 => absurd (by decide) (of_decide_eq_false c3))
  refine zk_T.adv 4 (f' := (52, [(0, .ref 0), (1, .int (nI e))], [.ref 32, .ref 40])) (h' := zH (zb v 0 (upd (v 0) 10 0)) w t) rfl ?_
  refine zk_T.cl (v := none) (h' := zH (zb (zb (zb v 0 (upd (v 0) 10 0)) 40 (upd (upd (v 40) 1 (nI ((p + 1) % 16))) 2 (nI (min (k + 1) 16)))) 41 (zr_save (v 41) (p * 16) (v 32 0) (v 32 1) (v 33) (v 34) (v 35))) w t) rfl (zs_remember (v := (zb v 0 (upd (v 0) 10 0))) p hp hp16 k hk hk16) ?_
  show zk_T zk_mt zk_ex Ls xs zm_191 (55, [(0, .ref 0), (1, .int (nI e))], []) (zH (zb (zb (zb v 0 (upd (v 0) 10 0)) 40 (upd (upd (v 40) 1 (nI ((p + 1) % 16))) 2 (nI (min (k + 1) 16)))) 41 (zr_save (v 41) (p * 16) (v 32 0) (v 32 1) (v 33) (v 34) (v 35))) w t) _
  refine zk_T.adv 8 (f' := (71, [(0, .ref 0), (1, .int (nI e))], [.int (nI e), .ref 24, .int (nI e), .ref 35])) (h' := zH (zb (zb (zb v 0 (upd (v 0) 10 0)) 40 (upd (upd (v 40) 1 (nI ((p + 1) % 16))) 2 (nI (min (k + 1) 16)))) 41 (zr_save (v 41) (p * 16) (v 32 0) (v 32 1) (v 33) (v 34) (v 35))) w t) rfl ?_
  refine zk_T.ob (f' := (72, [(0, .ref 0), (1, .int (nI e))], [.int (v 24 (nI e).toNatClampNeg), .int (nI e), .ref 35])) (h' := zH (zb (zb (zb v 0 (upd (v 0) 10 0)) 40 (upd (upd (v 40) 1 (nI ((p + 1) % 16))) 2 (nI (min (k + 1) 16)))) 41 (zr_save (v 41) (p * 16) (v 32 0) (v 32 1) (v 33) (v 34) (v 35))) w t) rfl (by first | exact zk_inN (by omega) (by decide) | decide) ?_
  rw [nI_clamp (show e < 2 ^ 31 by omega)]
  refine zk_T.ob (f' := (73, [(0, .ref 0), (1, .int (nI e))], [])) (h' := zH (zb (zb (zb (zb v 0 (upd (v 0) 10 0)) 35 (upd (v 35) (nI e).toNatClampNeg (v 24 e))) 40 (upd (upd (v 40) 1 (nI ((p + 1) % 16))) 2 (nI (min (k + 1) 16)))) 41 (zr_save (v 41) (p * 16) (v 32 0) (v 32 1) (v 33) (v 34) (v 35))) w t) rfl (by first | exact zk_inN (by omega) (by decide) | decide) ?_
  rw [nI_clamp (show e < 2 ^ 31 by omega)]
  refine zk_T.adv 1 (f' := (74, [(0, .ref 0), (1, .int (nI e))], [.int 1])) (h' := zH (zb (zb (zb (zb v 0 (upd (v 0) 10 0)) 35 (upd (v 35) e (v 24 e))) 40 (upd (upd (v 40) 1 (nI ((p + 1) % 16))) 2 (nI (min (k + 1) 16)))) 41 (zr_save (v 41) (p * 16) (v 32 0) (v 32 1) (v 33) (v 34) (v 35))) w t) rfl ?_
  exact zk_T.rt rfl rfl (by rfl)
/-- BasketKeep.undo -/
theorem zK_undo_0 (hk : v 40 2 = 0) : zk_Cr zk_mt zk_ex Ls xs 197 [.ref 0] (zH v w t) (some (.int 0), zH (zb v 0 (upd (v 0) 10 6)) w t) := by
  refine zk_Cr.of (K := zm_197) rfl rfl rfl ?_
  show zk_T zk_mt zk_ex Ls xs zm_197 (0, [(0, .ref 0)], []) (zH v w t) _
  refine zk_T.adv 5 (f' := (9, [(0, .ref 0)], [.ref 32, .ref 40, .ref 0])) (h' := zH v w t) rfl ?_
  refine zk_T.cl (v := some (.int 0)) (h' := zH v w t) rfl (zs_stepBack_0 hk) ?_
  show zk_T zk_mt zk_ex Ls xs zm_197 (12, [(0, .ref 0)], [.int 0, .ref 0]) (zH v w t) _
  refine zk_T.br (f1 := (15, [(0, .ref 0)], [.ref 0])) (f2 := (19, [(0, .ref 0)], [.ref 0])) rfl (fun c1 => ?_) (fun c1 => absurd (by decide) (of_decide_eq_false c1))
  refine zk_T.adv 3 (f' := (22, [(0, .ref 0)], [.int 6, .int 1, .ref 0])) (h' := zH v w t) rfl ?_
  refine zk_T.cl (v := some (.int 1)) (h' := zH (zb v 0 (upd (v 0) 10 6)) w t) rfl (zs_ref1 6) ?_
  show zk_T zk_mt zk_ex Ls xs zm_197 (25, [(0, .ref 0)], [.int 1]) (zH (zb v 0 (upd (v 0) 10 6)) w t) _
  refine zk_T.br (f1 := (28, [(0, .ref 0)], [])) (f2 := (32, [(0, .ref 0)], [])) rfl (fun c2 => absurd (of_decide_eq_true c2) (by decide)) (fun c2 => ?_)
  refine zk_T.adv 1 (f' := (33, [(0, .ref 0)], [.int 0])) (h' := zH (zb v 0 (upd (v 0) 10 6)) w t) rfl ?_
  exact zk_T.rt rfl rfl (by rfl)
/-- BasketKeep.undo -/
theorem zK_undo_s (p : Nat) (hp : v 40 1 = nI p) (hp16 : p < 16) (k : Nat) (hk : v 40 2 = nI (k + 1)) (hk16 : k < 16) (b : Nat) (hbb : b = ((p + 15) % 16) * 16) : zk_Cr zk_mt zk_ex Ls xs 197 [.ref 0] (zH v w t) (some (.int 1), zH (zb (zb (zb (zb (zb (zb v 0 (upd (v 0) 10 0)) 32 (upd (upd (v 32) 0 (v 41 b)) 1 (v 41 (b + 1)))) 33 (va_cpy (v 41) (v 33) (b + 2) 0 4)) 34 (va_cpy (v 41) (v 34) (b + 2 + 4) 0 5)) 35 (va_cpy (v 41) (v 35) (b + 2 + 4 + 5) 0 5)) 40 (upd (upd (v 40) 1 (nI ((p + 15) % 16))) 2 (nI k))) w t) := by
  refine zk_Cr.of (K := zm_197) rfl rfl rfl ?_
  show zk_T zk_mt zk_ex Ls xs zm_197 (0, [(0, .ref 0)], []) (zH v w t) _
  refine zk_T.adv 5 (f' := (9, [(0, .ref 0)], [.ref 32, .ref 40, .ref 0])) (h' := zH v w t) rfl ?_
  refine zk_T.cl (v := some (.int 1)) (h' := zH (zb (zb (zb (zb (zb v 32 (upd (upd (v 32) 0 (v 41 b)) 1 (v 41 (b + 1)))) 33 (va_cpy (v 41) (v 33) (b + 2) 0 4)) 34 (va_cpy (v 41) (v 34) (b + 2 + 4) 0 5)) 35 (va_cpy (v 41) (v 35) (b + 2 + 4 + 5) 0 5)) 40 (upd (upd (v 40) 1 (nI ((p + 15) % 16))) 2 (nI k))) w t) rfl (zs_stepBack_s (v := v) p hp hp16 k hk hk16 b hbb) ?_
  show zk_T zk_mt zk_ex Ls xs zm_197 (12, [(0, .ref 0)], [.int 1, .ref 0]) (zH (zb (zb (zb (zb (zb v 32 (upd (upd (v 32) 0 (v 41 b)) 1 (v 41 (b + 1)))) 33 (va_cpy (v 41) (v 33) (b + 2) 0 4)) 34 (va_cpy (v 41) (v 34) (b + 2 + 4) 0 5)) 35 (va_cpy (v 41) (v 35) (b + 2 + 4 + 5) 0 5)) 40 (upd (upd (v 40) 1 (nI ((p + 15) % 16))) 2 (nI k))) w t) _
  refine zk_T.br (f1 := (15, [(0, .ref 0)], [.ref 0])) (f2 := (19, [(0, .ref 0)], [.ref 0])) rfl (fun c1 => absurd (of_decide_eq_true c1) (by decide)) (fun c1 => ?_)
  refine zk_T.adv 2 (f' := (22, [(0, .ref 0)], [.int 6, .int 0, .ref 0])) (h' := zH (zb (zb (zb (zb (zb v 32 (upd (upd (v 32) 0 (v 41 b)) 1 (v 41 (b + 1)))) 33 (va_cpy (v 41) (v 33) (b + 2) 0 4)) 34 (va_cpy (v 41) (v 34) (b + 2 + 4) 0 5)) 35 (va_cpy (v 41) (v 35) (b + 2 + 4 + 5) 0 5)) 40 (upd (upd (v 40) 1 (nI ((p + 15) % 16))) 2 (nI k))) w t) rfl ?_
  refine zk_T.cl (v := some (.int 0)) (h' := zH (zb (zb (zb (zb (zb (zb v 0 (upd (v 0) 10 0)) 32 (upd (upd (v 32) 0 (v 41 b)) 1 (v 41 (b + 1)))) 33 (va_cpy (v 41) (v 33) (b + 2) 0 4)) 34 (va_cpy (v 41) (v 34) (b + 2 + 4) 0 5)) 35 (va_cpy (v 41) (v 35) (b + 2 + 4 + 5) 0 5)) 40 (upd (upd (v 40) 1 (nI ((p + 15) % 16))) 2 (nI k))) w t) rfl (zs_ref0 6) ?_
  show zk_T zk_mt zk_ex Ls xs zm_197 (25, [(0, .ref 0)], [.int 0]) (zH (zb (zb (zb (zb (zb (zb v 0 (upd (v 0) 10 0)) 32 (upd (upd (v 32) 0 (v 41 b)) 1 (v 41 (b + 1)))) 33 (va_cpy (v 41) (v 33) (b + 2) 0 4)) 34 (va_cpy (v 41) (v 34) (b + 2 + 4) 0 5)) 35 (va_cpy (v 41) (v 35) (b + 2 + 4 + 5) 0 5)) 40 (upd (upd (v 40) 1 (nI ((p + 15) % 16))) 2 (nI k))) w t) _
  refine zk_T.br (f1 := (28, [(0, .ref 0)], [])) (f2 := (32, [(0, .ref 0)], [])) rfl (fun c2 => ?_) (fun c2 => absurd (by decide) (of_decide_eq_false c2))
  refine zk_T.adv 2 (f' := (33, [(0, .ref 0)], [.int 1])) (h' := zH (zb (zb (zb (zb (zb (zb v 0 (upd (v 0) 10 0)) 32 (upd (upd (v 32) 0 (v 41 b)) 1 (v 41 (b + 1)))) 33 (va_cpy (v 41) (v 33) (b + 2) 0 4)) 34 (va_cpy (v 41) (v 34) (b + 2 + 4) 0 5)) 35 (va_cpy (v 41) (v 35) (b + 2 + 4 + 5) 0 5)) 40 (upd (upd (v 40) 1 (nI ((p + 15) % 16))) 2 (nI k))) w t) rfl ?_
  exact zk_T.rt rfl rfl (by rfl)
/-- BasketKeep.image -/
theorem zK_image_t (hst : v 0 2 = 0) : zk_Cr zk_mt zk_ex Ls xs 190 [.ref 0] (zH v w t) (some (.int (-1)), zH (zb v 0 (upd (v 0) 10 1)) w t) := by
  refine zk_Cr.of (K := zm_190) rfl rfl rfl ?_
  show zk_T zk_mt zk_ex Ls xs zm_190 (0, [(0, .ref 0)], []) (zH v w t) _
  refine zk_T.adv 1 (f' := (1, [(0, .ref 0)], [.ref 0])) (h' := zH v w t) rfl ?_
  refine zk_T.cl (v := some (.int 1)) (h' := zH (zb v 0 (upd (v 0) 10 1)) w t) rfl (zs_noLevel_t (v := v) hst) ?_
  show zk_T zk_mt zk_ex Ls xs zm_190 (4, [(0, .ref 0)], [.int 1]) (zH (zb v 0 (upd (v 0) 10 1)) w t) _
  refine zk_T.br (f1 := (7, [(0, .ref 0)], [])) (f2 := (22, [(0, .ref 0)], [])) rfl (fun c1 => absurd (of_decide_eq_true c1) (by decide)) (fun c1 => ?_)
  refine zk_T.adv 2 (f' := (37, [(0, .ref 0)], [.int (-1)])) (h' := zH (zb v 0 (upd (v 0) 10 1)) w t) rfl ?_
  exact zk_T.rt rfl rfl (by rfl)
/-- BasketKeep.image -/
theorem zK_image_3 (hst : v 0 2 = 1) (hi : v 40 4 = 3) : zk_Cr zk_mt zk_ex Ls xs 190 [.ref 0] (zH v w t) (some (.int (-1)), zH (zb v 0 (upd (v 0) 10 3)) w t) := by
  refine zk_Cr.of (K := zm_190) rfl rfl rfl ?_
  show zk_T zk_mt zk_ex Ls xs zm_190 (0, [(0, .ref 0)], []) (zH v w t) _
  refine zk_T.adv 1 (f' := (1, [(0, .ref 0)], [.ref 0])) (h' := zH v w t) rfl ?_
  refine zk_T.cl (v := some (.int 0)) (h' := zH (zb v 0 (upd (v 0) 10 0)) w t) rfl (zs_noLevel_f (v := v) hst) ?_
  show zk_T zk_mt zk_ex Ls xs zm_190 (4, [(0, .ref 0)], [.int 0]) (zH (zb v 0 (upd (v 0) 10 0)) w t) _
  refine zk_T.br (f1 := (7, [(0, .ref 0)], [])) (f2 := (22, [(0, .ref 0)], [])) rfl (fun c1 => ?_) (fun c1 => absurd (by decide) (of_decide_eq_false c1))
  refine zk_T.adv 3 (f' := (12, [(0, .ref 0)], [.ref 40, .ref 0])) (h' := zH (zb v 0 (upd (v 0) 10 0)) w t) rfl ?_
  refine zk_T.cl (v := some (.int 1)) (h' := zH (zb v 0 (upd (v 0) 10 0)) w t) rfl (zs_isFull_t hi) ?_
  show zk_T zk_mt zk_ex Ls xs zm_190 (15, [(0, .ref 0)], [.int 1, .ref 0]) (zH (zb v 0 (upd (v 0) 10 0)) w t) _
  refine zk_T.adv 1 (f' := (16, [(0, .ref 0)], [.int 3, .int 1, .ref 0])) (h' := zH (zb v 0 (upd (v 0) 10 0)) w t) rfl ?_
  refine zk_T.cl (v := some (.int 1)) (h' := zH (zb v 0 (upd (v 0) 10 3)) w t) rfl (zs_ref1 3) ?_
  show zk_T zk_mt zk_ex Ls xs zm_190 (19, [(0, .ref 0)], [.int 1]) (zH (zb v 0 (upd (v 0) 10 3)) w t) _
  refine zk_T.br (f1 := (26, [(0, .ref 0)], [])) (f2 := (22, [(0, .ref 0)], [])) rfl (fun c2 => absurd (of_decide_eq_true c2) (by decide)) (fun c2 => ?_)
  refine zk_T.adv 2 (f' := (37, [(0, .ref 0)], [.int (-1)])) (h' := zH (zb v 0 (upd (v 0) 10 3)) w t) rfl ?_
  exact zk_T.rt rfl rfl (by rfl)
/-- BasketKeep.image -/
theorem zK_image_f (hst : v 0 2 = 1) (i : Nat) (hi : v 40 4 = nI i) (hi3 : i < 3) : zk_Cr zk_mt zk_ex Ls xs 190 [.ref 0] (zH v w t) (some (.int (nI i)), zH (zb (zb (zb v 0 (upd (v 0) 10 0)) 40 (upd (v 40) 4 (nI (i + 1)))) 42 (zr_save (v 42) (i * 16) (v 32 0) (v 32 1) (v 33) (v 34) (v 35))) w t) := by
  refine zk_Cr.of (K := zm_190) rfl rfl rfl ?_
  show zk_T zk_mt zk_ex Ls xs zm_190 (0, [(0, .ref 0)], []) (zH v w t) _
  refine zk_T.adv 1 (f' := (1, [(0, .ref 0)], [.ref 0])) (h' := zH v w t) rfl ?_
  refine zk_T.cl (v := some (.int 0)) (h' := zH (zb v 0 (upd (v 0) 10 0)) w t) rfl (zs_noLevel_f (v := v) hst) ?_
  show zk_T zk_mt zk_ex Ls xs zm_190 (4, [(0, .ref 0)], [.int 0]) (zH (zb v 0 (upd (v 0) 10 0)) w t) _
  refine zk_T.br (f1 := (7, [(0, .ref 0)], [])) (f2 := (22, [(0, .ref 0)], [])) rfl (fun c1 => ?_) (fun c1 => absurd (by decide) (of_decide_eq_false c1))
  refine zk_T.adv 3 (f' := (12, [(0, .ref 0)], [.ref 40, .ref 0])) (h' := zH (zb v 0 (upd (v 0) 10 0)) w t) rfl ?_
  refine zk_T.cl (v := some (.int 0)) (h' := zH (zb v 0 (upd (v 0) 10 0)) w t) rfl (zs_isFull_f (v := (zb v 0 (upd (v 0) 10 0))) i hi hi3) ?_
  show zk_T zk_mt zk_ex Ls xs zm_190 (15, [(0, .ref 0)], [.int 0, .ref 0]) (zH (zb v 0 (upd (v 0) 10 0)) w t) _
  refine zk_T.adv 1 (f' := (16, [(0, .ref 0)], [.int 3, .int 0, .ref 0])) (h' := zH (zb v 0 (upd (v 0) 10 0)) w t) rfl ?_
  refine zk_T.cl (v := some (.int 0)) (h' := zH (zb v 0 (upd (v 0) 10 0)) w t) rfl (zs_ref0 3) ?_
  show zk_T zk_mt zk_ex Ls xs zm_190 (19, [(0, .ref 0)], [.int 0]) (zH (zb v 0 (upd (v 0) 10 0)) w t) _
  refine zk_T.br (f1 := (26, [(0, .ref 0)], [])) (f2 := (22, [(0, .ref 0)], [])) rfl (fun c2 => ?_) (fun c2 => absurd (by decide) (of_decide_eq_false c2))
  refine zk_T.adv 4 (f' := (34, [(0, .ref 0)], [.ref 32, .ref 40])) (h' := zH (zb v 0 (upd (v 0) 10 0)) w t) rfl ?_
  refine zk_T.cl (v := some (.int (nI i))) (h' := zH (zb (zb (zb v 0 (upd (v 0) 10 0)) 40 (upd (v 40) 4 (nI (i + 1)))) 42 (zr_save (v 42) (i * 16) (v 32 0) (v 32 1) (v 33) (v 34) (v 35))) w t) rfl (zs_keepImage (v := (zb v 0 (upd (v 0) 10 0))) i hi hi3) ?_
  show zk_T zk_mt zk_ex Ls xs zm_190 (37, [(0, .ref 0)], [.int (nI i)]) (zH (zb (zb (zb v 0 (upd (v 0) 10 0)) 40 (upd (v 40) 4 (nI (i + 1)))) 42 (zr_save (v 42) (i * 16) (v 32 0) (v 32 1) (v 33) (v 34) (v 35))) w t) _
  exact zk_T.rt rfl rfl (by rfl)
/-- BasketKeep.back -/
theorem zK_back_t (x : Int32) (h : x < 0 ∨ v 40 4 ≤ x) : zk_Cr zk_mt zk_ex Ls xs 189 [.ref 0, .int x] (zH v w t) (some (.int 0), zH (zb v 0 (upd (v 0) 10 1)) w t) := by
  refine zk_Cr.of (K := zm_189) rfl rfl rfl ?_
  show zk_T zk_mt zk_ex Ls xs zm_189 (0, [(0, .ref 0), (1, .int x)], []) (zH v w t) _
  refine zk_T.adv 6 (f' := (10, [(0, .ref 0), (1, .int x)], [.ref 32, .int x, .ref 40, .ref 0])) (h' := zH v w t) rfl ?_
  refine zk_T.cl (v := some (.int 0)) (h' := zH v w t) rfl (zs_returnTo_t x h) ?_
  show zk_T zk_mt zk_ex Ls xs zm_189 (13, [(0, .ref 0), (1, .int x)], [.int 0, .ref 0]) (zH v w t) _
  refine zk_T.br (f1 := (16, [(0, .ref 0), (1, .int x)], [.ref 0])) (f2 := (20, [(0, .ref 0), (1, .int x)], [.ref 0])) rfl (fun c1 => ?_) (fun c1 => absurd (by decide) (of_decide_eq_false c1))
  refine zk_T.adv 3 (f' := (22, [(0, .ref 0), (1, .int x)], [.int 1, .int 1, .ref 0])) (h' := zH v w t) rfl ?_
  refine zk_T.cl (v := some (.int 1)) (h' := zH (zb v 0 (upd (v 0) 10 1)) w t) rfl (zs_ref1 1) ?_
  show zk_T zk_mt zk_ex Ls xs zm_189 (25, [(0, .ref 0), (1, .int x)], [.int 1]) (zH (zb v 0 (upd (v 0) 10 1)) w t) _
  refine zk_T.br (f1 := (28, [(0, .ref 0), (1, .int x)], [])) (f2 := (32, [(0, .ref 0), (1, .int x)], [])) rfl (fun c2 => absurd (of_decide_eq_true c2) (by decide)) (fun c2 => ?_)
  refine zk_T.adv 1 (f' := (33, [(0, .ref 0), (1, .int x)], [.int 0])) (h' := zH (zb v 0 (upd (v 0) 10 1)) w t) rfl ?_
  exact zk_T.rt rfl rfl (by rfl)
/-- BasketKeep.back -/
theorem zK_back_f (i j : Nat) (hi : v 40 4 = nI i) (hi3 : i ≤ 3) (hj : j < i) : zk_Cr zk_mt zk_ex Ls xs 189 [.ref 0, .int (nI j)] (zH v w t) (some (.int 1), zH (zb (zb (zb (zb (zb (zb v 0 (upd (v 0) 10 0)) 32 (upd (upd (v 32) 0 (v 42 (j * 16))) 1 (v 42 ((j * 16) + 1)))) 33 (va_cpy (v 42) (v 33) ((j * 16) + 2) 0 4)) 34 (va_cpy (v 42) (v 34) ((j * 16) + 2 + 4) 0 5)) 35 (va_cpy (v 42) (v 35) ((j * 16) + 2 + 4 + 5) 0 5)) 40 (upd (v 40) 2 0)) w t) := by
  refine zk_Cr.of (K := zm_189) rfl rfl rfl ?_
  show zk_T zk_mt zk_ex Ls xs zm_189 (0, [(0, .ref 0), (1, .int (nI j))], []) (zH v w t) _
  refine zk_T.adv 6 (f' := (10, [(0, .ref 0), (1, .int (nI j))], [.ref 32, .int (nI j), .ref 40, .ref 0])) (h' := zH v w t) rfl ?_
  refine zk_T.cl (v := some (.int 1)) (h' := zH (zb (zb (zb (zb (zb v 32 (upd (upd (v 32) 0 (v 42 (j * 16))) 1 (v 42 ((j * 16) + 1)))) 33 (va_cpy (v 42) (v 33) ((j * 16) + 2) 0 4)) 34 (va_cpy (v 42) (v 34) ((j * 16) + 2 + 4) 0 5)) 35 (va_cpy (v 42) (v 35) ((j * 16) + 2 + 4 + 5) 0 5)) 40 (upd (v 40) 2 0)) w t) rfl (zs_returnTo_f (v := v) i j hi hi3 hj) ?_
  show zk_T zk_mt zk_ex Ls xs zm_189 (13, [(0, .ref 0), (1, .int (nI j))], [.int 1, .ref 0]) (zH (zb (zb (zb (zb (zb v 32 (upd (upd (v 32) 0 (v 42 (j * 16))) 1 (v 42 ((j * 16) + 1)))) 33 (va_cpy (v 42) (v 33) ((j * 16) + 2) 0 4)) 34 (va_cpy (v 42) (v 34) ((j * 16) + 2 + 4) 0 5)) 35 (va_cpy (v 42) (v 35) ((j * 16) + 2 + 4 + 5) 0 5)) 40 (upd (v 40) 2 0)) w t) _
  refine zk_T.br (f1 := (16, [(0, .ref 0), (1, .int (nI j))], [.ref 0])) (f2 := (20, [(0, .ref 0), (1, .int (nI j))], [.ref 0])) rfl (fun c1 => absurd (of_decide_eq_true c1) (by decide)) (fun c1 => ?_)
  refine zk_T.adv 2 (f' := (22, [(0, .ref 0), (1, .int (nI j))], [.int 1, .int 0, .ref 0])) (h' := zH (zb (zb (zb (zb (zb v 32 (upd (upd (v 32) 0 (v 42 (j * 16))) 1 (v 42 ((j * 16) + 1)))) 33 (va_cpy (v 42) (v 33) ((j * 16) + 2) 0 4)) 34 (va_cpy (v 42) (v 34) ((j * 16) + 2 + 4) 0 5)) 35 (va_cpy (v 42) (v 35) ((j * 16) + 2 + 4 + 5) 0 5)) 40 (upd (v 40) 2 0)) w t) rfl ?_
  refine zk_T.cl (v := some (.int 0)) (h' := zH (zb (zb (zb (zb (zb (zb v 0 (upd (v 0) 10 0)) 32 (upd (upd (v 32) 0 (v 42 (j * 16))) 1 (v 42 ((j * 16) + 1)))) 33 (va_cpy (v 42) (v 33) ((j * 16) + 2) 0 4)) 34 (va_cpy (v 42) (v 34) ((j * 16) + 2 + 4) 0 5)) 35 (va_cpy (v 42) (v 35) ((j * 16) + 2 + 4 + 5) 0 5)) 40 (upd (v 40) 2 0)) w t) rfl (zs_ref0 1) ?_
  show zk_T zk_mt zk_ex Ls xs zm_189 (25, [(0, .ref 0), (1, .int (nI j))], [.int 0]) (zH (zb (zb (zb (zb (zb (zb v 0 (upd (v 0) 10 0)) 32 (upd (upd (v 32) 0 (v 42 (j * 16))) 1 (v 42 ((j * 16) + 1)))) 33 (va_cpy (v 42) (v 33) ((j * 16) + 2) 0 4)) 34 (va_cpy (v 42) (v 34) ((j * 16) + 2 + 4) 0 5)) 35 (va_cpy (v 42) (v 35) ((j * 16) + 2 + 4 + 5) 0 5)) 40 (upd (v 40) 2 0)) w t) _
  refine zk_T.br (f1 := (28, [(0, .ref 0), (1, .int (nI j))], [])) (f2 := (32, [(0, .ref 0), (1, .int (nI j))], [])) rfl (fun c2 => ?_) (fun c2 => absurd (by decide) (of_decide_eq_false c2))
  refine zk_T.adv 2 (f' := (33, [(0, .ref 0), (1, .int (nI j))], [.int 1])) (h' := zH (zb (zb (zb (zb (zb (zb v 0 (upd (v 0) 10 0)) 32 (upd (upd (v 32) 0 (v 42 (j * 16))) 1 (v 42 ((j * 16) + 1)))) 33 (va_cpy (v 42) (v 33) ((j * 16) + 2) 0 4)) 34 (va_cpy (v 42) (v 34) ((j * 16) + 2 + 4) 0 5)) 35 (va_cpy (v 42) (v 35) ((j * 16) + 2 + 4 + 5) 0 5)) 40 (upd (v 40) 2 0)) w t) rfl ?_
  exact zk_T.rt rfl rfl (by rfl)
def zl_yearG (ol : Nat → Int32) (j : Nat) (s : (Nat → Int32)) : (Nat → Int32) := match s with
  | la => upd la j (ol j)
theorem zl_year (Mn : Nat) (hM : v 20 4 = nI Mn) (h5 : Mn ≤ 5) (nl : Int32) : ∀ (s : (Nat → Int32)) (q : Option Value × zk_H), zk_T zk_mt zk_ex Ls xs zm_253 ((fun (s : (Nat → Int32)) => ((148, [(0, .ref 0), (1, .int nl), (2, .int (nI (0 + Mn)))], []) : zk_F)) (zf (zl_yearG (v 50)) Mn 0 s)) ((fun (s : (Nat → Int32)) => zH (zb v 35 s) w t) (zf (zl_yearG (v 50)) Mn 0 s)) q → zk_T zk_mt zk_ex Ls xs zm_253 (113, [(0, .ref 0), (1, .int nl), (2, .int (nI 0))], []) (zH (zb v 35 s) w t) q := by
  intro s q hk
  refine zk_forK (M := zm_253) (fun j (s : (Nat → Int32)) => (113, [(0, .ref 0), (1, .int nl), (2, .int (nI j))], [])) (fun _ (s : (Nat → Int32)) => zH (zb v 35 s) w t) (zl_yearG (v 50)) (fun _ _ => True) (fun (s : (Nat → Int32)) => (148, [(0, .ref 0), (1, .int nl), (2, .int (nI (0 + Mn)))], [])) (fun (s : (Nat → Int32)) => zH (zb v 35 s) w t) (Mn) 0 s (fun _ _ _ _ _ => trivial) (fun j s hj1 hj2 hp q hk => ?_) (fun s hp q hk => ?_) ?_ q hk
  · have hz := True.intro
    obtain ⟨la, rfl⟩ : ∃ z, z = s := ⟨_, rfl⟩
    show zk_T zk_mt zk_ex Ls xs zm_253 (113, [(0, .ref 0), (1, .int nl), (2, .int (nI j))], []) (zH (zb v 35 la) w t) q
    refine zk_T.adv 4 (f' := (121, [(0, .ref 0), (1, .int nl), (2, .int (nI j))], [.int (v 20 4), .int (nI j)])) (h' := zH (zb v 35 la) w t) rfl ?_
    refine zk_T.br (f1 := (148, [(0, .ref 0), (1, .int nl), (2, .int (nI j))], [])) (f2 := (124, [(0, .ref 0), (1, .int nl), (2, .int (nI j))], [])) rfl (fun c1 => absurd (of_decide_eq_true c1) (by rw [hM]; exact nI_ge (show j < Mn by omega) (by omega))) (fun c1 => ?_)
    refine zk_T.adv 8 (f' := (140, [(0, .ref 0), (1, .int nl), (2, .int (nI j))], [.int (nI j), .ref 49, .int (nI j), .ref 35])) (h' := zH (zb v 35 la) w t) rfl ?_
    refine zk_T.ob (f' := (141, [(0, .ref 0), (1, .int nl), (2, .int (nI j))], [.int (v 50 (nI j).toNatClampNeg), .int (nI j), .ref 35])) (h' := zH (zb v 35 la) w t) rfl (by first | exact zk_inN (by omega) (by decide) | decide) ?_
    rw [nI_clamp (show j < 2 ^ 31 by omega)]
    refine zk_T.ob (f' := (142, [(0, .ref 0), (1, .int nl), (2, .int (nI j))], [])) (h' := zH (zb v 35 (upd la (nI j).toNatClampNeg (v 50 j))) w t) rfl (by first | exact zk_inN (by omega) (by decide) | decide) ?_
    rw [nI_clamp (show j < 2 ^ 31 by omega)]
    refine zk_T.adv 2 (f' := (113, [(0, .ref 0), (1, .int nl), (2, .int ((nI j) + 1))], [])) (h' := zH (zb v 35 (upd la j (v 50 j))) w t) rfl ?_
    rw [nI_1]
    simp only [zl_yearG] at hk
    exact hk
  · have hz := True.intro
    obtain ⟨la, rfl⟩ : ∃ z, z = s := ⟨_, rfl⟩
    show zk_T zk_mt zk_ex Ls xs zm_253 (113, [(0, .ref 0), (1, .int nl), (2, .int (nI (0 + Mn)))], []) (zH (zb v 35 la) w t) q
    refine zk_T.adv 4 (f' := (121, [(0, .ref 0), (1, .int nl), (2, .int (nI (0 + Mn)))], [.int (v 20 4), .int (nI (0 + Mn))])) (h' := zH (zb v 35 la) w t) rfl ?_
    refine zk_T.br (f1 := (148, [(0, .ref 0), (1, .int nl), (2, .int (nI (0 + Mn)))], [])) (f2 := (124, [(0, .ref 0), (1, .int nl), (2, .int (nI (0 + Mn)))], [])) rfl (fun c1 => ?_) (fun c1 => absurd (by rw [hM, Nat.zero_add]; exact nI_le (Nat.le_refl _) (by omega)) (of_decide_eq_false c1))
    exact hk
  · exact trivial
/-- BasketKeep.year -/
theorem zK_year_t (hst : v 0 2 = 0) : zk_Cr zk_mt zk_ex Ls xs 253 [.ref 0] (zH v w t) (some (.int (-1)), zH (zb v 0 (upd (v 0) 10 1)) w t) := by
  refine zk_Cr.of (K := zm_253) rfl rfl rfl ?_
  show zk_T zk_mt zk_ex Ls xs zm_253 (0, [(0, .ref 0)], []) (zH v w t) _
  refine zk_T.adv 1 (f' := (1, [(0, .ref 0)], [.ref 0])) (h' := zH v w t) rfl ?_
  refine zk_T.cl (v := some (.int 1)) (h' := zH (zb v 0 (upd (v 0) 10 1)) w t) rfl (zs_noLevel_t (v := v) hst) ?_
  show zk_T zk_mt zk_ex Ls xs zm_253 (4, [(0, .ref 0)], [.int 1]) (zH (zb v 0 (upd (v 0) 10 1)) w t) _
  refine zk_T.br (f1 := (7, [(0, .ref 0)], [])) (f2 := (33, [(0, .ref 0)], [])) rfl (fun c1 => absurd (of_decide_eq_true c1) (by decide)) (fun c1 => ?_)
  refine zk_T.adv 1 (f' := (34, [(0, .ref 0)], [.int (-1)])) (h' := zH (zb v 0 (upd (v 0) 10 1)) w t) rfl ?_
  exact zk_T.rt rfl rfl (by rfl)
/-- BasketKeep.year -/
theorem zK_year_3 (hst : v 0 2 = 1) (hy : ¬ v 32 0 < 999) : zk_Cr zk_mt zk_ex Ls xs 253 [.ref 0] (zH v w t) (some (.int (-1)), zH (zb v 0 (upd (v 0) 10 3)) w t) := by
  refine zk_Cr.of (K := zm_253) rfl rfl rfl ?_
  show zk_T zk_mt zk_ex Ls xs zm_253 (0, [(0, .ref 0)], []) (zH v w t) _
  refine zk_T.adv 1 (f' := (1, [(0, .ref 0)], [.ref 0])) (h' := zH v w t) rfl ?_
  refine zk_T.cl (v := some (.int 0)) (h' := zH (zb v 0 (upd (v 0) 10 0)) w t) rfl (zs_noLevel_f (v := v) hst) ?_
  show zk_T zk_mt zk_ex Ls xs zm_253 (4, [(0, .ref 0)], [.int 0]) (zH (zb v 0 (upd (v 0) 10 0)) w t) _
  refine zk_T.br (f1 := (7, [(0, .ref 0)], [])) (f2 := (33, [(0, .ref 0)], [])) rfl (fun c1 => ?_) (fun c1 => absurd (by decide) (of_decide_eq_false c1))
  refine zk_T.adv 5 (f' := (18, [(0, .ref 0)], [.int 999, .int (v 32 0), .ref 0])) (h' := zH (zb v 0 (upd (v 0) 10 0)) w t) rfl ?_
  refine zk_T.br (f1 := (25, [(0, .ref 0)], [.ref 0])) (f2 := (21, [(0, .ref 0)], [.ref 0])) rfl (fun c2 => absurd (of_decide_eq_true c2) hy) (fun c2 => ?_)
  refine zk_T.adv 3 (f' := (27, [(0, .ref 0)], [.int 3, .int 1, .ref 0])) (h' := zH (zb v 0 (upd (v 0) 10 0)) w t) rfl ?_
  refine zk_T.cl (v := some (.int 1)) (h' := zH (zb v 0 (upd (v 0) 10 3)) w t) rfl (zs_ref1 3) ?_
  show zk_T zk_mt zk_ex Ls xs zm_253 (30, [(0, .ref 0)], [.int 1]) (zH (zb v 0 (upd (v 0) 10 3)) w t) _
  refine zk_T.br (f1 := (35, [(0, .ref 0)], [])) (f2 := (33, [(0, .ref 0)], [])) rfl (fun c3 => absurd (of_decide_eq_true c3) (by decide)) (fun c3 => ?_)
  refine zk_T.adv 1 (f' := (34, [(0, .ref 0)], [.int (-1)])) (h' := zH (zb v 0 (upd (v 0) 10 3)) w t) rfl ?_
  exact zk_T.rt rfl rfl (by rfl)
/-- BasketKeep.year -/
theorem zK_year_f (hst : v 0 2 = 1) (D : Nat) (hD : v 20 1 = nI D) (h8 : D ≤ 8) (Mn : Nat) (hM : v 20 4 = nI Mn) (h5 : Mn ≤ 5) (Gn : Nat) (hG : v 20 8 = nI Gn) (h4 : Gn ≤ 4) (hli : ∀ a, a < Gn → v 33 a < 0 ∨ ∃ e, e < 5 ∧ v 33 a = nI e) (hkd : ∀ e, e < 5 → v 23 e = 0 ∨ v 23 e = 1 ∨ v 23 e = 2)  (p : Nat) (hp : v 40 1 = nI p) (hp16 : p < 16) (k : Nat) (hk : v 40 2 = nI k) (hk16 : k ≤ 16) (hy : v 32 0 < 999) : zk_Cr zk_mt zk_ex Ls xs 253 [.ref 0] (zH v w t) (some (.int (((zvR_now (zb v 0 (upd (v 0) 10 0)) D Mn Gn 1) 43 3) &&& (((zvR_now (zb v 0 (upd (v 0) 10 0)) D Mn Gn 1) 32 1) ^^^ (-1)))), zH (zb (zb (zb (zb (zvR_now (zb v 0 (upd (v 0) 10 0)) D Mn Gn 1) 32 (upd (upd ((zvR_now (zb v 0 (upd (v 0) 10 0)) D Mn Gn 1) 32) 0 (((zvR_now (zb v 0 (upd (v 0) 10 0)) D Mn Gn 1) 32 0) + 1)) 1 ((zvR_now (zb v 0 (upd (v 0) 10 0)) D Mn Gn 1) 43 3))) 35 (zf (zl_yearG ((zb (zb (zb (zvR_now (zb v 0 (upd (v 0) 10 0)) D Mn Gn 1) 32 (upd (upd ((zvR_now (zb v 0 (upd (v 0) 10 0)) D Mn Gn 1) 32) 0 (((zvR_now (zb v 0 (upd (v 0) 10 0)) D Mn Gn 1) 32 0) + 1)) 1 ((zvR_now (zb v 0 (upd (v 0) 10 0)) D Mn Gn 1) 43 3))) 40 (upd (upd ((zvR_now (zb v 0 (upd (v 0) 10 0)) D Mn Gn 1) 40) 1 (nI ((p + 1) % 16))) 2 (nI (min (k + 1) 16)))) 41 (zr_save ((zvR_now (zb v 0 (upd (v 0) 10 0)) D Mn Gn 1) 41) (p * 16) ((zvR_now (zb v 0 (upd (v 0) 10 0)) D Mn Gn 1) 32 0) ((zvR_now (zb v 0 (upd (v 0) 10 0)) D Mn Gn 1) 32 1) ((zvR_now (zb v 0 (upd (v 0) 10 0)) D Mn Gn 1) 33) ((zvR_now (zb v 0 (upd (v 0) 10 0)) D Mn Gn 1) 34) ((zvR_now (zb v 0 (upd (v 0) 10 0)) D Mn Gn 1) 35))) 50)) Mn 0 ((zvR_now (zb v 0 (upd (v 0) 10 0)) D Mn Gn 1) 35))) 40 (upd (upd ((zvR_now (zb v 0 (upd (v 0) 10 0)) D Mn Gn 1) 40) 1 (nI ((p + 1) % 16))) 2 (nI (min (k + 1) 16)))) 41 (zr_save ((zvR_now (zb v 0 (upd (v 0) 10 0)) D Mn Gn 1) 41) (p * 16) ((zvR_now (zb v 0 (upd (v 0) 10 0)) D Mn Gn 1) 32 0) ((zvR_now (zb v 0 (upd (v 0) 10 0)) D Mn Gn 1) 32 1) ((zvR_now (zb v 0 (upd (v 0) 10 0)) D Mn Gn 1) 33) ((zvR_now (zb v 0 (upd (v 0) 10 0)) D Mn Gn 1) 34) ((zvR_now (zb v 0 (upd (v 0) 10 0)) D Mn Gn 1) 35))) w t) := by
  refine zk_Cr.of (K := zm_253) rfl rfl rfl ?_
  show zk_T zk_mt zk_ex Ls xs zm_253 (0, [(0, .ref 0)], []) (zH v w t) _
  refine zk_T.adv 1 (f' := (1, [(0, .ref 0)], [.ref 0])) (h' := zH v w t) rfl ?_
  refine zk_T.cl (v := some (.int 0)) (h' := zH (zb v 0 (upd (v 0) 10 0)) w t) rfl (zs_noLevel_f (v := v) hst) ?_
  show zk_T zk_mt zk_ex Ls xs zm_253 (4, [(0, .ref 0)], [.int 0]) (zH (zb v 0 (upd (v 0) 10 0)) w t) _
  refine zk_T.br (f1 := (7, [(0, .ref 0)], [])) (f2 := (33, [(0, .ref 0)], [])) rfl (fun c1 => ?_) (fun c1 => absurd (by decide) (of_decide_eq_false c1))
  refine zk_T.adv 5 (f' := (18, [(0, .ref 0)], [.int 999, .int (v 32 0), .ref 0])) (h' := zH (zb v 0 (upd (v 0) 10 0)) w t) rfl ?_
  refine zk_T.br (f1 := (25, [(0, .ref 0)], [.ref 0])) (f2 := (21, [(0, .ref 0)], [.ref 0])) rfl (fun c2 => ?_) (fun c2 => absurd hy (of_decide_eq_false c2))
  refine zk_T.adv 2 (f' := (27, [(0, .ref 0)], [.int 3, .int 0, .ref 0])) (h' := zH (zb v 0 (upd (v 0) 10 0)) w t) rfl ?_
  refine zk_T.cl (v := some (.int 0)) (h' := zH (zb v 0 (upd (v 0) 10 0)) w t) rfl (zs_ref0 3) ?_
  show zk_T zk_mt zk_ex Ls xs zm_253 (30, [(0, .ref 0)], [.int 0]) (zH (zb v 0 (upd (v 0) 10 0)) w t) _
  refine zk_T.br (f1 := (35, [(0, .ref 0)], [])) (f2 := (33, [(0, .ref 0)], [])) rfl (fun c3 => ?_) (fun c3 => absurd (by decide) (of_decide_eq_false c3))
  refine zk_T.adv 9 (f' := (52, [(0, .ref 0)], [.ref 68, .int 1, .ref 32, .ref 20, .ref 43])) (h' := zH (zb v 0 (upd (v 0) 10 0)) w t) rfl ?_
  refine zk_T.cl (v := none) (h' := zH (zvR_now (zb v 0 (upd (v 0) 10 0)) D Mn Gn 1) w t) rfl (zs_rsv_now (v := (zb v 0 (upd (v 0) 10 0))) D hD h8 Mn hM h5 Gn hG h4 hli hkd 1 (by omega)) ?_
  show zk_T zk_mt zk_ex Ls xs zm_253 (55, [(0, .ref 0)], []) (zH (zvR_now (zb v 0 (upd (v 0) 10 0)) D Mn Gn 1) w t) _
  refine zk_T.adv 14 (f' := (81, [(0, .ref 0), (1, .int (((zvR_now (zb v 0 (upd (v 0) 10 0)) D Mn Gn 1) 43 3) &&& (((zvR_now (zb v 0 (upd (v 0) 10 0)) D Mn Gn 1) 32 1) ^^^ (-1))))], [.ref 32, .ref 40])) (h' := zH (zvR_now (zb v 0 (upd (v 0) 10 0)) D Mn Gn 1) w t) rfl ?_
  refine zk_T.cl (v := none) (h' := zH (zb (zb (zvR_now (zb v 0 (upd (v 0) 10 0)) D Mn Gn 1) 40 (upd (upd ((zvR_now (zb v 0 (upd (v 0) 10 0)) D Mn Gn 1) 40) 1 (nI ((p + 1) % 16))) 2 (nI (min (k + 1) 16)))) 41 (zr_save ((zvR_now (zb v 0 (upd (v 0) 10 0)) D Mn Gn 1) 41) (p * 16) ((zvR_now (zb v 0 (upd (v 0) 10 0)) D Mn Gn 1) 32 0) ((zvR_now (zb v 0 (upd (v 0) 10 0)) D Mn Gn 1) 32 1) ((zvR_now (zb v 0 (upd (v 0) 10 0)) D Mn Gn 1) 33) ((zvR_now (zb v 0 (upd (v 0) 10 0)) D Mn Gn 1) 34) ((zvR_now (zb v 0 (upd (v 0) 10 0)) D Mn Gn 1) 35))) w t) rfl (zs_remember (v := (zvR_now (zb v 0 (upd (v 0) 10 0)) D Mn Gn 1)) p hp hp16 k hk hk16) ?_
  show zk_T zk_mt zk_ex Ls xs zm_253 (84, [(0, .ref 0), (1, .int (((zvR_now (zb v 0 (upd (v 0) 10 0)) D Mn Gn 1) 43 3) &&& (((zvR_now (zb v 0 (upd (v 0) 10 0)) D Mn Gn 1) 32 1) ^^^ (-1))))], []) (zH (zb (zb (zvR_now (zb v 0 (upd (v 0) 10 0)) D Mn Gn 1) 40 (upd (upd ((zvR_now (zb v 0 (upd (v 0) 10 0)) D Mn Gn 1) 40) 1 (nI ((p + 1) % 16))) 2 (nI (min (k + 1) 16)))) 41 (zr_save ((zvR_now (zb v 0 (upd (v 0) 10 0)) D Mn Gn 1) 41) (p * 16) ((zvR_now (zb v 0 (upd (v 0) 10 0)) D Mn Gn 1) 32 0) ((zvR_now (zb v 0 (upd (v 0) 10 0)) D Mn Gn 1) 32 1) ((zvR_now (zb v 0 (upd (v 0) 10 0)) D Mn Gn 1) 33) ((zvR_now (zb v 0 (upd (v 0) 10 0)) D Mn Gn 1) 34) ((zvR_now (zb v 0 (upd (v 0) 10 0)) D Mn Gn 1) 35))) w t) _
  refine zk_T.adv 15 (f' := (113, [(0, .ref 0), (1, .int (((zvR_now (zb v 0 (upd (v 0) 10 0)) D Mn Gn 1) 43 3) &&& (((zvR_now (zb v 0 (upd (v 0) 10 0)) D Mn Gn 1) 32 1) ^^^ (-1)))), (2, .int 0)], [])) (h' := zH (zb (zb (zb (zvR_now (zb v 0 (upd (v 0) 10 0)) D Mn Gn 1) 32 (upd (upd ((zvR_now (zb v 0 (upd (v 0) 10 0)) D Mn Gn 1) 32) 0 (((zvR_now (zb v 0 (upd (v 0) 10 0)) D Mn Gn 1) 32 0) + 1)) 1 ((zvR_now (zb v 0 (upd (v 0) 10 0)) D Mn Gn 1) 43 3))) 40 (upd (upd ((zvR_now (zb v 0 (upd (v 0) 10 0)) D Mn Gn 1) 40) 1 (nI ((p + 1) % 16))) 2 (nI (min (k + 1) 16)))) 41 (zr_save ((zvR_now (zb v 0 (upd (v 0) 10 0)) D Mn Gn 1) 41) (p * 16) ((zvR_now (zb v 0 (upd (v 0) 10 0)) D Mn Gn 1) 32 0) ((zvR_now (zb v 0 (upd (v 0) 10 0)) D Mn Gn 1) 32 1) ((zvR_now (zb v 0 (upd (v 0) 10 0)) D Mn Gn 1) 33) ((zvR_now (zb v 0 (upd (v 0) 10 0)) D Mn Gn 1) 34) ((zvR_now (zb v 0 (upd (v 0) 10 0)) D Mn Gn 1) 35))) w t) rfl ?_
  refine zl_year (v := (zb (zb (zb (zvR_now (zb v 0 (upd (v 0) 10 0)) D Mn Gn 1) 32 (upd (upd ((zvR_now (zb v 0 (upd (v 0) 10 0)) D Mn Gn 1) 32) 0 (((zvR_now (zb v 0 (upd (v 0) 10 0)) D Mn Gn 1) 32 0) + 1)) 1 ((zvR_now (zb v 0 (upd (v 0) 10 0)) D Mn Gn 1) 43 3))) 40 (upd (upd ((zvR_now (zb v 0 (upd (v 0) 10 0)) D Mn Gn 1) 40) 1 (nI ((p + 1) % 16))) 2 (nI (min (k + 1) 16)))) 41 (zr_save ((zvR_now (zb v 0 (upd (v 0) 10 0)) D Mn Gn 1) 41) (p * 16) ((zvR_now (zb v 0 (upd (v 0) 10 0)) D Mn Gn 1) 32 0) ((zvR_now (zb v 0 (upd (v 0) 10 0)) D Mn Gn 1) 32 1) ((zvR_now (zb v 0 (upd (v 0) 10 0)) D Mn Gn 1) 33) ((zvR_now (zb v 0 (upd (v 0) 10 0)) D Mn Gn 1) 34) ((zvR_now (zb v 0 (upd (v 0) 10 0)) D Mn Gn 1) 35)))) Mn hM h5 (((zvR_now (zb v 0 (upd (v 0) 10 0)) D Mn Gn 1) 43 3) &&& (((zvR_now (zb v 0 (upd (v 0) 10 0)) D Mn Gn 1) 32 1) ^^^ (-1))) ((zvR_now (zb v 0 (upd (v 0) 10 0)) D Mn Gn 1) 35) _ ?_
  show zk_T zk_mt zk_ex Ls xs zm_253 (148, [(0, .ref 0), (1, .int (((zvR_now (zb v 0 (upd (v 0) 10 0)) D Mn Gn 1) 43 3) &&& (((zvR_now (zb v 0 (upd (v 0) 10 0)) D Mn Gn 1) 32 1) ^^^ (-1)))), (2, .int (nI (0 + Mn)))], []) (zH (zb (zb (zb (zb (zvR_now (zb v 0 (upd (v 0) 10 0)) D Mn Gn 1) 32 (upd (upd ((zvR_now (zb v 0 (upd (v 0) 10 0)) D Mn Gn 1) 32) 0 (((zvR_now (zb v 0 (upd (v 0) 10 0)) D Mn Gn 1) 32 0) + 1)) 1 ((zvR_now (zb v 0 (upd (v 0) 10 0)) D Mn Gn 1) 43 3))) 35 (zf (zl_yearG ((zb (zb (zb (zvR_now (zb v 0 (upd (v 0) 10 0)) D Mn Gn 1) 32 (upd (upd ((zvR_now (zb v 0 (upd (v 0) 10 0)) D Mn Gn 1) 32) 0 (((zvR_now (zb v 0 (upd (v 0) 10 0)) D Mn Gn 1) 32 0) + 1)) 1 ((zvR_now (zb v 0 (upd (v 0) 10 0)) D Mn Gn 1) 43 3))) 40 (upd (upd ((zvR_now (zb v 0 (upd (v 0) 10 0)) D Mn Gn 1) 40) 1 (nI ((p + 1) % 16))) 2 (nI (min (k + 1) 16)))) 41 (zr_save ((zvR_now (zb v 0 (upd (v 0) 10 0)) D Mn Gn 1) 41) (p * 16) ((zvR_now (zb v 0 (upd (v 0) 10 0)) D Mn Gn 1) 32 0) ((zvR_now (zb v 0 (upd (v 0) 10 0)) D Mn Gn 1) 32 1) ((zvR_now (zb v 0 (upd (v 0) 10 0)) D Mn Gn 1) 33) ((zvR_now (zb v 0 (upd (v 0) 10 0)) D Mn Gn 1) 34) ((zvR_now (zb v 0 (upd (v 0) 10 0)) D Mn Gn 1) 35))) 50)) Mn 0 ((zvR_now (zb v 0 (upd (v 0) 10 0)) D Mn Gn 1) 35))) 40 (upd (upd ((zvR_now (zb v 0 (upd (v 0) 10 0)) D Mn Gn 1) 40) 1 (nI ((p + 1) % 16))) 2 (nI (min (k + 1) 16)))) 41 (zr_save ((zvR_now (zb v 0 (upd (v 0) 10 0)) D Mn Gn 1) 41) (p * 16) ((zvR_now (zb v 0 (upd (v 0) 10 0)) D Mn Gn 1) 32 0) ((zvR_now (zb v 0 (upd (v 0) 10 0)) D Mn Gn 1) 32 1) ((zvR_now (zb v 0 (upd (v 0) 10 0)) D Mn Gn 1) 33) ((zvR_now (zb v 0 (upd (v 0) 10 0)) D Mn Gn 1) 34) ((zvR_now (zb v 0 (upd (v 0) 10 0)) D Mn Gn 1) 35))) w t) _
  refine zk_T.adv 1 (f' := (149, [(0, .ref 0), (1, .int (((zvR_now (zb v 0 (upd (v 0) 10 0)) D Mn Gn 1) 43 3) &&& (((zvR_now (zb v 0 (upd (v 0) 10 0)) D Mn Gn 1) 32 1) ^^^ (-1)))), (2, .int (nI (0 + Mn)))], [.int (((zvR_now (zb v 0 (upd (v 0) 10 0)) D Mn Gn 1) 43 3) &&& (((zvR_now (zb v 0 (upd (v 0) 10 0)) D Mn Gn 1) 32 1) ^^^ (-1)))])) (h' := zH (zb (zb (zb (zb (zvR_now (zb v 0 (upd (v 0) 10 0)) D Mn Gn 1) 32 (upd (upd ((zvR_now (zb v 0 (upd (v 0) 10 0)) D Mn Gn 1) 32) 0 (((zvR_now (zb v 0 (upd (v 0) 10 0)) D Mn Gn 1) 32 0) + 1)) 1 ((zvR_now (zb v 0 (upd (v 0) 10 0)) D Mn Gn 1) 43 3))) 35 (zf (zl_yearG ((zb (zb (zb (zvR_now (zb v 0 (upd (v 0) 10 0)) D Mn Gn 1) 32 (upd (upd ((zvR_now (zb v 0 (upd (v 0) 10 0)) D Mn Gn 1) 32) 0 (((zvR_now (zb v 0 (upd (v 0) 10 0)) D Mn Gn 1) 32 0) + 1)) 1 ((zvR_now (zb v 0 (upd (v 0) 10 0)) D Mn Gn 1) 43 3))) 40 (upd (upd ((zvR_now (zb v 0 (upd (v 0) 10 0)) D Mn Gn 1) 40) 1 (nI ((p + 1) % 16))) 2 (nI (min (k + 1) 16)))) 41 (zr_save ((zvR_now (zb v 0 (upd (v 0) 10 0)) D Mn Gn 1) 41) (p * 16) ((zvR_now (zb v 0 (upd (v 0) 10 0)) D Mn Gn 1) 32 0) ((zvR_now (zb v 0 (upd (v 0) 10 0)) D Mn Gn 1) 32 1) ((zvR_now (zb v 0 (upd (v 0) 10 0)) D Mn Gn 1) 33) ((zvR_now (zb v 0 (upd (v 0) 10 0)) D Mn Gn 1) 34) ((zvR_now (zb v 0 (upd (v 0) 10 0)) D Mn Gn 1) 35))) 50)) Mn 0 ((zvR_now (zb v 0 (upd (v 0) 10 0)) D Mn Gn 1) 35))) 40 (upd (upd ((zvR_now (zb v 0 (upd (v 0) 10 0)) D Mn Gn 1) 40) 1 (nI ((p + 1) % 16))) 2 (nI (min (k + 1) 16)))) 41 (zr_save ((zvR_now (zb v 0 (upd (v 0) 10 0)) D Mn Gn 1) 41) (p * 16) ((zvR_now (zb v 0 (upd (v 0) 10 0)) D Mn Gn 1) 32 0) ((zvR_now (zb v 0 (upd (v 0) 10 0)) D Mn Gn 1) 32 1) ((zvR_now (zb v 0 (upd (v 0) 10 0)) D Mn Gn 1) 33) ((zvR_now (zb v 0 (upd (v 0) 10 0)) D Mn Gn 1) 34) ((zvR_now (zb v 0 (upd (v 0) 10 0)) D Mn Gn 1) 35))) w t) rfl ?_
  exact zk_T.rt rfl rfl (by rfl)
end Z34
