/-! contracts: the reference: size of nothing -/
section Z57
variable {Ls : Nat} {xs : Nat → Int32} {v : Nat → Nat → Int32} {w : Nat → Nat → Int64} {t : zk_H}
/-- BasketKeepModel.size -/
theorem zM_size_d (hst : v 68 14 = 1) (x : Int32) (hx : ¬ x = 10) (hw : x.toInt < 0 ∨ 9 < x.toInt) : zk_Cr zk_mt zk_ex Ls xs 125 [.ref 69, .int x] (zH v w t) (some (.int (-1)), zH (zb v 68 (upd (v 68) 0 0)) w t) := by
  refine zk_Cr.of (K := zm_125) rfl rfl rfl ?_
  show zk_T zk_mt zk_ex Ls xs zm_125 (0, [(0, .ref 69), (1, .int x)], []) (zH v w t) _
  refine zk_T.adv 5 (f' := (8, [(0, .ref 69), (1, .int x)], [.int 10, .int x])) (h' := zH (zb v 68 (upd (v 68) 0 0)) w t) rfl ?_
  refine zk_T.br (f1 := (11, [(0, .ref 69), (1, .int x)], [])) (f2 := (16, [(0, .ref 69), (1, .int x)], [])) rfl (fun c1 => absurd (of_decide_eq_true c1) hx) (fun c1 => ?_)
  refine zk_T.adv 2 (f' := (20, [(0, .ref 69), (1, .int x)], [.int (v 68 14)])) (h' := zH (zb v 68 (upd (v 68) 0 0)) w t) rfl ?_
  rw [show (v 68 14) = 1 from hst]
  refine zk_T.br (f1 := (23, [(0, .ref 69), (1, .int x)], [])) (f2 := (39, [(0, .ref 69), (1, .int x)], [])) rfl (fun c2 => absurd (of_decide_eq_true c2) (by decide)) (fun c2 => ?_)
  refine zk_T.adv 1 (f' := (40, [(0, .ref 69), (1, .int x)], [.int x])) (h' := zH (zb v 68 (upd (v 68) 0 0)) w t) rfl ?_
  refine zk_T.tsd (tgt := 135) rfl hw rfl ?_
  show zk_T zk_mt zk_ex Ls xs zm_125 (135, [(0, .ref 69), (1, .int x)], []) (zH (zb v 68 (upd (v 68) 0 0)) w t) _
  refine zk_T.adv 1 (f' := (136, [(0, .ref 69), (1, .int x)], [.int (-1)])) (h' := zH (zb v 68 (upd (v 68) 0 0)) w t) rfl ?_
  exact zk_T.rt rfl rfl (by rfl)
end Z57
