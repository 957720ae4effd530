/-! contracts: the class's calls: now; states kept -/
section Z32
variable {Ls : Nat} {xs : Nat → Int32} {v : Nat → Nat → Int32} {w : Nat → Nat → Int64} {t : zk_H}
/-- BasketKeep.strikes -/
theorem zK_strikes_t (x : Int32) (hst : v 0 2 = 0) : zk_Cr zk_mt zk_ex Ls xs 147 [.ref 0, .int x] (zH v w t) (some (.int (-1)), zH (zb v 0 (upd (v 0) 10 1)) w t) := by
  refine zk_Cr.of (K := zm_147) rfl rfl rfl ?_
  show zk_T zk_mt zk_ex Ls xs zm_147 (0, [(0, .ref 0), (1, .int x)], []) (zH v w t) _
  refine zk_T.adv 1 (f' := (1, [(0, .ref 0), (1, .int x)], [.ref 0])) (h' := zH v w t) rfl ?_
  refine zk_T.cl (v := some (.int 1)) (h' := zH (zb v 0 (upd (v 0) 10 1)) w t) rfl (zs_noLevel_t (v := v) hst) ?_
  show zk_T zk_mt zk_ex Ls xs zm_147 (4, [(0, .ref 0), (1, .int x)], [.int 1]) (zH (zb v 0 (upd (v 0) 10 1)) w t) _
  refine zk_T.br (f1 := (7, [(0, .ref 0), (1, .int x)], [])) (f2 := (19, [(0, .ref 0), (1, .int x)], [])) rfl (fun c1 => absurd (of_decide_eq_true c1) (by decide)) (fun c1 => ?_)
  refine zk_T.adv 2 (f' := (31, [(0, .ref 0), (1, .int x)], [.int (-1)])) (h' := zH (zb v 0 (upd (v 0) 10 1)) w t) rfl ?_
  exact zk_T.rt rfl rfl (by rfl)
/-- BasketKeep.strikes -/
theorem zK_strikes_o (x : Int32) (hst : v 0 2 = 1) (ho : x < 1 ∨ 999 < x) : zk_Cr zk_mt zk_ex Ls xs 147 [.ref 0, .int x] (zH v w t) (some (.int (-1)), zH (zb v 0 (upd (v 0) 10 2)) w t) := by
  refine zk_Cr.of (K := zm_147) rfl rfl rfl ?_
  show zk_T zk_mt zk_ex Ls xs zm_147 (0, [(0, .ref 0), (1, .int x)], []) (zH v w t) _
  refine zk_T.adv 1 (f' := (1, [(0, .ref 0), (1, .int x)], [.ref 0])) (h' := zH v w t) rfl ?_
  refine zk_T.cl (v := some (.int 0)) (h' := zH (zb v 0 (upd (v 0) 10 0)) w t) rfl (zs_noLevel_f (v := v) hst) ?_
  show zk_T zk_mt zk_ex Ls xs zm_147 (4, [(0, .ref 0), (1, .int x)], [.int 0]) (zH (zb v 0 (upd (v 0) 10 0)) w t) _
  refine zk_T.br (f1 := (7, [(0, .ref 0), (1, .int x)], [])) (f2 := (19, [(0, .ref 0), (1, .int x)], [])) rfl (fun c1 => ?_) (fun c1 => absurd (by decide) (of_decide_eq_false c1))
  refine zk_T.adv 4 (f' := (13, [(0, .ref 0), (1, .int x)], [.int 999, .int 1, .int x, .ref 0])) (h' := zH (zb v 0 (upd (v 0) 10 0)) w t) rfl ?_
  refine zk_T.cl (v := some (.int 1)) (h' := zH (zb v 0 (upd (v 0) 10 2)) w t) rfl (zs_outside_t x 1 999 ho) ?_
  show zk_T zk_mt zk_ex Ls xs zm_147 (16, [(0, .ref 0), (1, .int x)], [.int 1]) (zH (zb v 0 (upd (v 0) 10 2)) w t) _
  refine zk_T.br (f1 := (23, [(0, .ref 0), (1, .int x)], [])) (f2 := (19, [(0, .ref 0), (1, .int x)], [])) rfl (fun c2 => absurd (of_decide_eq_true c2) (by decide)) (fun c2 => ?_)
  refine zk_T.adv 2 (f' := (31, [(0, .ref 0), (1, .int x)], [.int (-1)])) (h' := zH (zb v 0 (upd (v 0) 10 2)) w t) rfl ?_
  exact zk_T.rt rfl rfl (by rfl)
/-- BasketKeep.strikes -/
theorem zK_strikes_f (hst : v 0 2 = 1) (D : Nat) (hD : v 20 1 = nI D) (h8 : D ≤ 8) (y : Nat) (hy1 : 1 ≤ y) (hy : y ≤ 999) : zk_Cr zk_mt zk_ex Ls xs 147 [.ref 0, .int (nI y)] (zH v w t) (some (.int (zr_strikingIn D (v 21) (v 22) (nI y))), zH (zb v 0 (upd (v 0) 10 0)) w t) := by
  refine zk_Cr.of (K := zm_147) rfl rfl rfl ?_
  show zk_T zk_mt zk_ex Ls xs zm_147 (0, [(0, .ref 0), (1, .int (nI y))], []) (zH v w t) _
  refine zk_T.adv 1 (f' := (1, [(0, .ref 0), (1, .int (nI y))], [.ref 0])) (h' := zH v w t) rfl ?_
  refine zk_T.cl (v := some (.int 0)) (h' := zH (zb v 0 (upd (v 0) 10 0)) w t) rfl (zs_noLevel_f (v := v) hst) ?_
  show zk_T zk_mt zk_ex Ls xs zm_147 (4, [(0, .ref 0), (1, .int (nI y))], [.int 0]) (zH (zb v 0 (upd (v 0) 10 0)) w t) _
  refine zk_T.br (f1 := (7, [(0, .ref 0), (1, .int (nI y))], [])) (f2 := (19, [(0, .ref 0), (1, .int (nI y))], [])) rfl (fun c1 => ?_) (fun c1 => absurd (by decide) (of_decide_eq_false c1))
  refine zk_T.adv 4 (f' := (13, [(0, .ref 0), (1, .int (nI y))], [.int 999, .int 1, .int (nI y), .ref 0])) (h' := zH (zb v 0 (upd (v 0) 10 0)) w t) rfl ?_
  refine zk_T.cl (v := some (.int 0)) (h' := zH (zb v 0 (upd (v 0) 10 0)) w t) rfl (zs_outside_f (nI y) 1 999 (nI_nlt (show 1 ≤ y by omega) (by omega)) (show nI y ≤ nI 999 from nI_le (by omega) (by decide))) ?_
  show zk_T zk_mt zk_ex Ls xs zm_147 (16, [(0, .ref 0), (1, .int (nI y))], [.int 0]) (zH (zb v 0 (upd (v 0) 10 0)) w t) _
  refine zk_T.br (f1 := (23, [(0, .ref 0), (1, .int (nI y))], [])) (f2 := (19, [(0, .ref 0), (1, .int (nI y))], [])) rfl (fun c2 => ?_) (fun c2 => absurd (by decide) (of_decide_eq_false c2))
  refine zk_T.adv 3 (f' := (28, [(0, .ref 0), (1, .int (nI y))], [.int (nI y), .ref 20])) (h' := zH (zb v 0 (upd (v 0) 10 0)) w t) rfl ?_
  refine zk_T.cl (v := some (.int (zr_strikingIn D (v 21) (v 22) (nI y)))) (h' := zH (zb v 0 (upd (v 0) 10 0)) w t) rfl (zs_strikingIn (v := (zb v 0 (upd (v 0) 10 0))) D hD h8 (nI y)) ?_
  show zk_T zk_mt zk_ex Ls xs zm_147 (31, [(0, .ref 0), (1, .int (nI y))], [.int (zr_strikingIn D (v 21) (v 22) (nI y))]) (zH (zb v 0 (upd (v 0) 10 0)) w t) _
  exact zk_T.rt rfl rfl (by rfl)
/-- BasketKeep.keepsOut -/
theorem zK_keepsOut_t (x : Int32) (hx : v 0 2 = 0 ∨ x < 0 ∨ v 20 4 ≤ x) (y : Int32) : zk_Cr zk_mt zk_ex Ls xs 141 [.ref 0, .int x, .int y] (zH v w t) (some (.int (-1)), zH (zb v 0 (upd (v 0) 10 1)) w t) := by
  refine zk_Cr.of (K := zm_141) rfl rfl rfl ?_
  show zk_T zk_mt zk_ex Ls xs zm_141 (0, [(0, .ref 0), (1, .int x), (2, .int y)], []) (zH v w t) _
  refine zk_T.adv 2 (f' := (2, [(0, .ref 0), (1, .int x), (2, .int y)], [.int x, .ref 0])) (h' := zH v w t) rfl ?_
  refine zk_T.cl (v := some (.int 1)) (h' := zH (zb v 0 (upd (v 0) 10 1)) w t) rfl (zs_noMaker_t (v := v) x hx) ?_
  show zk_T zk_mt zk_ex Ls xs zm_141 (5, [(0, .ref 0), (1, .int x), (2, .int y)], [.int 1]) (zH (zb v 0 (upd (v 0) 10 1)) w t) _
  refine zk_T.br (f1 := (8, [(0, .ref 0), (1, .int x), (2, .int y)], [])) (f2 := (20, [(0, .ref 0), (1, .int x), (2, .int y)], [])) rfl (fun c1 => absurd (of_decide_eq_true c1) (by decide)) (fun c1 => ?_)
  refine zk_T.adv 1 (f' := (21, [(0, .ref 0), (1, .int x), (2, .int y)], [.int (-1)])) (h' := zH (zb v 0 (upd (v 0) 10 1)) w t) rfl ?_
  exact zk_T.rt rfl rfl (by rfl)
/-- BasketKeep.keepsOut -/
theorem zK_keepsOut_o (hst : v 0 2 = 1) (Mn : Nat) (hM : v 20 4 = nI Mn) (h5 : Mn ≤ 5) (e : Nat) (he : e < Mn) (y : Int32) (ho : y < 1 ∨ 999 < y) : zk_Cr zk_mt zk_ex Ls xs 141 [.ref 0, .int (nI e), .int y] (zH v w t) (some (.int (-1)), zH (zb v 0 (upd (v 0) 10 2)) w t) := by
  refine zk_Cr.of (K := zm_141) rfl rfl rfl ?_
  show zk_T zk_mt zk_ex Ls xs zm_141 (0, [(0, .ref 0), (1, .int (nI e)), (2, .int y)], []) (zH v w t) _
  refine zk_T.adv 2 (f' := (2, [(0, .ref 0), (1, .int (nI e)), (2, .int y)], [.int (nI e), .ref 0])) (h' := zH v w t) rfl ?_
  refine zk_T.cl (v := some (.int 0)) (h' := zH (zb v 0 (upd (v 0) 10 0)) w t) rfl (zs_noMaker_f (v := v) hst Mn hM h5 e he) ?_
  show zk_T zk_mt zk_ex Ls xs zm_141 (5, [(0, .ref 0), (1, .int (nI e)), (2, .int y)], [.int 0]) (zH (zb v 0 (upd (v 0) 10 0)) w t) _
  refine zk_T.br (f1 := (8, [(0, .ref 0), (1, .int (nI e)), (2, .int y)], [])) (f2 := (20, [(0, .ref 0), (1, .int (nI e)), (2, .int y)], [])) rfl (fun c1 => ?_) (fun c1 => absurd (by decide) (of_decide_eq_false c1))
  refine zk_T.adv 4 (f' := (14, [(0, .ref 0), (1, .int (nI e)), (2, .int y)], [.int 999, .int 1, .int y, .ref 0])) (h' := zH (zb v 0 (upd (v 0) 10 0)) w t) rfl ?_
  refine zk_T.cl (v := some (.int 1)) (h' := zH (zb v 0 (upd (v 0) 10 2)) w t) rfl (zs_outside_t y 1 999 ho) ?_
  show zk_T zk_mt zk_ex Ls xs zm_141 (17, [(0, .ref 0), (1, .int (nI e)), (2, .int y)], [.int 1]) (zH (zb v 0 (upd (v 0) 10 2)) w t) _
  refine zk_T.br (f1 := (22, [(0, .ref 0), (1, .int (nI e)), (2, .int y)], [])) (f2 := (20, [(0, .ref 0), (1, .int (nI e)), (2, .int y)], [])) rfl (fun c2 => absurd (of_decide_eq_true c2) (by decide)) (fun c2 => ?_)
  refine zk_T.adv 1 (f' := (21, [(0, .ref 0), (1, .int (nI e)), (2, .int y)], [.int (-1)])) (h' := zH (zb v 0 (upd (v 0) 10 2)) w t) rfl ?_
  exact zk_T.rt rfl rfl (by rfl)
def zr_keepsOutK (ls th kd : Int32) (y : Nat) : Int32 := if ls ≤ 0 then 0 else (zr_heldOff kd th (nI y))
/-- BasketKeep.keepsOut -/
theorem zK_keepsOut_f (hst : v 0 2 = 1) (Mn : Nat) (hM : v 20 4 = nI Mn) (h5 : Mn ≤ 5) (hkd : ∀ e, e < 5 → v 23 e = 0 ∨ v 23 e = 1 ∨ v 23 e = 2) (e : Nat) (he : e < Mn) (y : Nat) (hy1 : 1 ≤ y) (hy : y ≤ 999) : zk_Cr zk_mt zk_ex Ls xs 141 [.ref 0, .int (nI e), .int (nI y)] (zH v w t) (some (.int (zr_keepsOutK (v 35 e) (v 34 e) (v 23 e) y)), zH (zb v 0 (upd (v 0) 10 0)) w t) := by
  refine zk_Cr.of (K := zm_141) rfl rfl rfl ?_
  show zk_T zk_mt zk_ex Ls xs zm_141 (0, [(0, .ref 0), (1, .int (nI e)), (2, .int (nI y))], []) (zH v w t) _
  refine zk_T.adv 2 (f' := (2, [(0, .ref 0), (1, .int (nI e)), (2, .int (nI y))], [.int (nI e), .ref 0])) (h' := zH v w t) rfl ?_
  refine zk_T.cl (v := some (.int 0)) (h' := zH (zb v 0 (upd (v 0) 10 0)) w t) rfl (zs_noMaker_f (v := v) hst Mn hM h5 e he) ?_
  show zk_T zk_mt zk_ex Ls xs zm_141 (5, [(0, .ref 0), (1, .int (nI e)), (2, .int (nI y))], [.int 0]) (zH (zb v 0 (upd (v 0) 10 0)) w t) _
  refine zk_T.br (f1 := (8, [(0, .ref 0), (1, .int (nI e)), (2, .int (nI y))], [])) (f2 := (20, [(0, .ref 0), (1, .int (nI e)), (2, .int (nI y))], [])) rfl (fun c1 => ?_) (fun c1 => absurd (by decide) (of_decide_eq_false c1))
  refine zk_T.adv 4 (f' := (14, [(0, .ref 0), (1, .int (nI e)), (2, .int (nI y))], [.int 999, .int 1, .int (nI y), .ref 0])) (h' := zH (zb v 0 (upd (v 0) 10 0)) w t) rfl ?_
  refine zk_T.cl (v := some (.int 0)) (h' := zH (zb v 0 (upd (v 0) 10 0)) w t) rfl (zs_outside_f (nI y) 1 999 (nI_nlt (show 1 ≤ y by omega) (by omega)) (show nI y ≤ nI 999 from nI_le (by omega) (by decide))) ?_
  show zk_T zk_mt zk_ex Ls xs zm_141 (17, [(0, .ref 0), (1, .int (nI e)), (2, .int (nI y))], [.int 0]) (zH (zb v 0 (upd (v 0) 10 0)) w t) _
  refine zk_T.br (f1 := (22, [(0, .ref 0), (1, .int (nI e)), (2, .int (nI y))], [])) (f2 := (20, [(0, .ref 0), (1, .int (nI e)), (2, .int (nI y))], [])) rfl (fun c2 => ?_) (fun c2 => absurd (by decide) (of_decide_eq_false c2))
  refine zk_T.adv 4 (f' := (30, [(0, .ref 0), (1, .int (nI e)), (2, .int (nI y))], [.int (nI e), .ref 35])) (h' := zH (zb v 0 (upd (v 0) 10 0)) w t) rfl ?_
  refine zk_T.ob (f' := (31, [(0, .ref 0), (1, .int (nI e)), (2, .int (nI y))], [.int (v 35 (nI e).toNatClampNeg)])) (h' := zH (zb v 0 (upd (v 0) 10 0)) w t) rfl (by first | exact zk_inN (by omega) (by decide) | decide) ?_
  rw [nI_clamp (show e < 2 ^ 31 by omega)]
  refine zk_T.br (f1 := (55, [(0, .ref 0), (1, .int (nI e)), (2, .int (nI y))], [])) (f2 := (34, [(0, .ref 0), (1, .int (nI e)), (2, .int (nI y))], [])) rfl (fun c3 => ?_) (fun c3 => ?_)
  · have c3 : (v 35 e) ≤ 0 := of_decide_eq_true c3
    refine zk_T.adv 1 (f' := (56, [(0, .ref 0), (1, .int (nI e)), (2, .int (nI y))], [.int 0])) (h' := zH (zb v 0 (upd (v 0) 10 0)) w t) rfl ?_
    exact zk_T.rt rfl rfl (by simp only [zr_keepsOutK, if_pos c3])
  · have c3 : ¬ ((v 35 e) ≤ 0) := of_decide_eq_false c3
    refine zk_T.adv 7 (f' := (47, [(0, .ref 0), (1, .int (nI e)), (2, .int (nI y))], [.int (nI e), .ref 34, .int (nI e), .ref 20])) (h' := zH (zb v 0 (upd (v 0) 10 0)) w t) rfl ?_
    refine zk_T.ob (f' := (48, [(0, .ref 0), (1, .int (nI e)), (2, .int (nI y))], [.int (v 34 (nI e).toNatClampNeg), .int (nI e), .ref 20])) (h' := zH (zb v 0 (upd (v 0) 10 0)) w t) rfl (by first | exact zk_inN (by omega) (by decide) | decide) ?_
    rw [nI_clamp (show e < 2 ^ 31 by omega)]
    refine zk_T.adv 1 (f' := (49, [(0, .ref 0), (1, .int (nI e)), (2, .int (nI y))], [.int (nI y), .int (v 34 e), .int (nI e), .ref 20])) (h' := zH (zb v 0 (upd (v 0) 10 0)) w t) rfl ?_
    refine zk_T.cl (v := some (.int (zr_heldOff (v 23 e) (v 34 e) (nI y)))) (h' := zH (zb v 0 (upd (v 0) 10 0)) w t) rfl (zs_heldOff (v := (zb v 0 (upd (v 0) 10 0))) e (by omega) (hkd e (by omega)) (v 34 e) (nI y)) ?_
    show zk_T zk_mt zk_ex Ls xs zm_141 (52, [(0, .ref 0), (1, .int (nI e)), (2, .int (nI y))], [.int (zr_heldOff (v 23 e) (v 34 e) (nI y))]) (zH (zb v 0 (upd (v 0) 10 0)) w t) _
    refine zk_T.adv 1 (f' := (56, [(0, .ref 0), (1, .int (nI e)), (2, .int (nI y))], [.int (zr_heldOff (v 23 e) (v 34 e) (nI y))])) (h' := zH (zb v 0 (upd (v 0) 10 0)) w t) rfl ?_
    exact zk_T.rt rfl rfl (by simp only [zr_keepsOutK, if_neg c3])
/-- BasketKeep.strikesNext -/
theorem zK_strikesNext_t (x : Int32) (hx : v 0 2 = 0 ∨ x < 0 ∨ v 20 1 ≤ x) : zk_Cr zk_mt zk_ex Ls xs 148 [.ref 0, .int x] (zH v w t) (some (.int (-1)), zH (zb v 0 (upd (v 0) 10 1)) w t) := by
  refine zk_Cr.of (K := zm_148) rfl rfl rfl ?_
  show zk_T zk_mt zk_ex Ls xs zm_148 (0, [(0, .ref 0), (1, .int x)], []) (zH v w t) _
  refine zk_T.adv 2 (f' := (2, [(0, .ref 0), (1, .int x)], [.int x, .ref 0])) (h' := zH v w t) rfl ?_
  refine zk_T.cl (v := some (.int 1)) (h' := zH (zb v 0 (upd (v 0) 10 1)) w t) rfl (zs_noDanger_t (v := v) x hx) ?_
  show zk_T zk_mt zk_ex Ls xs zm_148 (5, [(0, .ref 0), (1, .int x)], [.int 1]) (zH (zb v 0 (upd (v 0) 10 1)) w t) _
  refine zk_T.br (f1 := (12, [(0, .ref 0), (1, .int x)], [])) (f2 := (8, [(0, .ref 0), (1, .int x)], [])) rfl (fun c1 => absurd (of_decide_eq_true c1) (by decide)) (fun c1 => ?_)
  refine zk_T.adv 2 (f' := (27, [(0, .ref 0), (1, .int x)], [.int (-1)])) (h' := zH (zb v 0 (upd (v 0) 10 1)) w t) rfl ?_
  exact zk_T.rt rfl rfl (by rfl)
/-- BasketKeep.strikesNext -/
theorem zK_strikesNext_f (hst : v 0 2 = 1) (D : Nat) (hD : v 20 1 = nI D) (h8 : D ≤ 8) (d : Nat) (hd : d < D) : zk_Cr zk_mt zk_ex Ls xs 148 [.ref 0, .int (nI d)] (zH v w t) (some (.int (zr_firstStrike (v 21) (v 22) d (v 32 0))), zH (zb v 0 (upd (v 0) 10 0)) w t) := by
  refine zk_Cr.of (K := zm_148) rfl rfl rfl ?_
  show zk_T zk_mt zk_ex Ls xs zm_148 (0, [(0, .ref 0), (1, .int (nI d))], []) (zH v w t) _
  refine zk_T.adv 2 (f' := (2, [(0, .ref 0), (1, .int (nI d))], [.int (nI d), .ref 0])) (h' := zH v w t) rfl ?_
  refine zk_T.cl (v := some (.int 0)) (h' := zH (zb v 0 (upd (v 0) 10 0)) w t) rfl (zs_noDanger_f (v := v) hst D hD h8 d hd) ?_
  show zk_T zk_mt zk_ex Ls xs zm_148 (5, [(0, .ref 0), (1, .int (nI d))], [.int 0]) (zH (zb v 0 (upd (v 0) 10 0)) w t) _
  refine zk_T.br (f1 := (12, [(0, .ref 0), (1, .int (nI d))], [])) (f2 := (8, [(0, .ref 0), (1, .int (nI d))], [])) rfl (fun c1 => ?_) (fun c1 => absurd (by decide) (of_decide_eq_false c1))
  refine zk_T.adv 6 (f' := (24, [(0, .ref 0), (1, .int (nI d))], [.int (v 32 0), .int (nI d), .ref 20])) (h' := zH (zb v 0 (upd (v 0) 10 0)) w t) rfl ?_
  refine zk_T.cl (v := some (.int (zr_firstStrike (v 21) (v 22) d (v 32 0)))) (h' := zH (zb v 0 (upd (v 0) 10 0)) w t) rfl (zs_firstStrike d (by omega) (v 32 0)) ?_
  show zk_T zk_mt zk_ex Ls xs zm_148 (27, [(0, .ref 0), (1, .int (nI d))], [.int (zr_firstStrike (v 21) (v 22) d (v 32 0))]) (zH (zb v 0 (upd (v 0) 10 0)) w t) _
  exact zk_T.rt rfl rfl (by rfl)
def zl_stillG (D : Nat) (ev fr : Nat → Int32) (yg : Int32) (j : Nat) (s : Unit) : (Unit) ⊕ Int32 := match s with
  | () => if (zr_strikingIn D (ev) (fr) (yg + (nI j))) = 0 then .inr (nI j) else .inl ()
theorem zl_still (D : Nat) (hD : v 20 1 = nI D) (h8 : D ≤ 8) : ∀ (s : Unit) (q : Option Value × zk_H), zk_or (fun (s : Unit) => zk_T zk_mt zk_ex Ls xs zm_146 (44, [(0, .ref 0), (1, .int (nI (1 + 60)))], []) (zH (zb v 0 (upd (v 0) 10 0)) w t) q) (fun (r : Int32) => (some (.int r), zH (zb v 0 (upd (v 0) 10 0)) w t) = q) (zfr (zl_stillG D (v 21) (v 22) (v 32 0)) 60 1 s) → zk_T zk_mt zk_ex Ls xs zm_146 (11, [(0, .ref 0), (1, .int (nI 1))], []) (zH (zb v 0 (upd (v 0) 10 0)) w t) q := by
  intro s q hk
  refine zk_forX (M := zm_146) (fun j (s : Unit) => (11, [(0, .ref 0), (1, .int (nI j))], [])) (fun _ (s : Unit) => zH (zb v 0 (upd (v 0) 10 0)) w t) (zl_stillG D (v 21) (v 22) (v 32 0)) (fun _ _ => True) (fun (s : Unit) => (44, [(0, .ref 0), (1, .int (nI (1 + 60)))], [])) (fun (s : Unit) => zH (zb v 0 (upd (v 0) 10 0)) w t) (fun r q => (some (.int r), zH (zb v 0 (upd (v 0) 10 0)) w t) = q) (60) 1 s (fun _ _ _ _ _ _ _ => trivial) (fun j s hj1 hj2 hp q hk => ?_) (fun s hp q hk => ?_) ?_ q hk
  · have hz := True.intro
    show zk_T zk_mt zk_ex Ls xs zm_146 (11, [(0, .ref 0), (1, .int (nI j))], []) (zH (zb v 0 (upd (v 0) 10 0)) w t) q
    refine zk_T.adv 2 (f' := (14, [(0, .ref 0), (1, .int (nI j))], [.int 60, .int (nI j)])) (h' := zH (zb v 0 (upd (v 0) 10 0)) w t) rfl ?_
    refine zk_T.br (f1 := (44, [(0, .ref 0), (1, .int (nI j))], [])) (f2 := (17, [(0, .ref 0), (1, .int (nI j))], [])) rfl (fun c1 => absurd (of_decide_eq_true c1) (nI_nlt (show j ≤ 60 by omega) (by decide))) (fun c1 => ?_)
    refine zk_T.adv 7 (f' := (30, [(0, .ref 0), (1, .int (nI j))], [.int ((v 32 0) + (nI j)), .ref 20])) (h' := zH (zb v 0 (upd (v 0) 10 0)) w t) rfl ?_
    refine zk_T.cl (v := some (.int (zr_strikingIn D (v 21) (v 22) ((v 32 0) + (nI j))))) (h' := zH (zb v 0 (upd (v 0) 10 0)) w t) rfl (zs_strikingIn (v := (zb v 0 (upd (v 0) 10 0))) D hD h8 ((v 32 0) + (nI j))) ?_
    show zk_T zk_mt zk_ex Ls xs zm_146 (33, [(0, .ref 0), (1, .int (nI j))], [.int (zr_strikingIn D (v 21) (v 22) ((v 32 0) + (nI j)))]) (zH (zb v 0 (upd (v 0) 10 0)) w t) _
    refine zk_T.br (f1 := (36, [(0, .ref 0), (1, .int (nI j))], [])) (f2 := (38, [(0, .ref 0), (1, .int (nI j))], [])) rfl (fun c2 => ?_) (fun c2 => ?_)
    · have c2 : (zr_strikingIn D (v 21) (v 22) ((v 32 0) + (nI j))) = 0 := of_decide_eq_true c2
      refine zk_T.adv 1 (f' := (37, [(0, .ref 0), (1, .int (nI j))], [.int (nI j)])) (h' := zH (zb v 0 (upd (v 0) 10 0)) w t) rfl ?_
      simp only [zl_stillG, zk_or, if_pos c2] at hk
      exact zk_T.rt rfl rfl hk
    · have c2 : ¬ ((zr_strikingIn D (v 21) (v 22) ((v 32 0) + (nI j))) = 0) := of_decide_eq_false c2
      refine zk_T.adv 2 (f' := (11, [(0, .ref 0), (1, .int ((nI j) + 1))], [])) (h' := zH (zb v 0 (upd (v 0) 10 0)) w t) rfl ?_
      rw [nI_1]
      simp only [zl_stillG, zk_or, if_neg c2] at hk
      exact hk
  · have hz := True.intro
    show zk_T zk_mt zk_ex Ls xs zm_146 (11, [(0, .ref 0), (1, .int (nI (1 + 60)))], []) (zH (zb v 0 (upd (v 0) 10 0)) w t) q
    refine zk_T.adv 2 (f' := (14, [(0, .ref 0), (1, .int (nI (1 + 60)))], [.int 60, .int (nI (1 + 60))])) (h' := zH (zb v 0 (upd (v 0) 10 0)) w t) rfl ?_
    refine zk_T.br (f1 := (44, [(0, .ref 0), (1, .int (nI (1 + 60)))], [])) (f2 := (17, [(0, .ref 0), (1, .int (nI (1 + 60)))], [])) rfl (fun c1 => ?_) (fun c1 => absurd (by decide) (of_decide_eq_false c1))
    exact hk
  · exact trivial
/-- BasketKeep.still -/
theorem zK_still_t (hst : v 0 2 = 0) : zk_Cr zk_mt zk_ex Ls xs 146 [.ref 0] (zH v w t) (some (.int (-1)), zH (zb v 0 (upd (v 0) 10 1)) w t) := by
  refine zk_Cr.of (K := zm_146) rfl rfl rfl ?_
  show zk_T zk_mt zk_ex Ls xs zm_146 (0, [(0, .ref 0)], []) (zH v w t) _
  refine zk_T.adv 1 (f' := (1, [(0, .ref 0)], [.ref 0])) (h' := zH v w t) rfl ?_
  refine zk_T.cl (v := some (.int 1)) (h' := zH (zb v 0 (upd (v 0) 10 1)) w t) rfl (zs_noLevel_t (v := v) hst) ?_
  show zk_T zk_mt zk_ex Ls xs zm_146 (4, [(0, .ref 0)], [.int 1]) (zH (zb v 0 (upd (v 0) 10 1)) w t) _
  refine zk_T.br (f1 := (9, [(0, .ref 0)], [])) (f2 := (7, [(0, .ref 0)], [])) rfl (fun c1 => absurd (of_decide_eq_true c1) (by decide)) (fun c1 => ?_)
  refine zk_T.adv 1 (f' := (8, [(0, .ref 0)], [.int (-1)])) (h' := zH (zb v 0 (upd (v 0) 10 1)) w t) rfl ?_
  exact zk_T.rt rfl rfl (by rfl)
def zr_still (D : Nat) (ev fr : Nat → Int32) (yg : Int32) : Int32 := match zfr (zl_stillG D (ev) (fr) yg) 60 1 () with | .inl s => (-2) | .inr r => r
/-- BasketKeep.still -/
theorem zK_still_f (hst : v 0 2 = 1) (D : Nat) (hD : v 20 1 = nI D) (h8 : D ≤ 8) : zk_Cr zk_mt zk_ex Ls xs 146 [.ref 0] (zH v w t) (some (.int (zr_still D (v 21) (v 22) (v 32 0))), zH (zb v 0 (upd (v 0) 10 0)) w t) := by
  refine zk_Cr.of (K := zm_146) rfl rfl rfl ?_
  show zk_T zk_mt zk_ex Ls xs zm_146 (0, [(0, .ref 0)], []) (zH v w t) _
  refine zk_T.adv 1 (f' := (1, [(0, .ref 0)], [.ref 0])) (h' := zH v w t) rfl ?_
  refine zk_T.cl (v := some (.int 0)) (h' := zH (zb v 0 (upd (v 0) 10 0)) w t) rfl (zs_noLevel_f (v := v) hst) ?_
  show zk_T zk_mt zk_ex Ls xs zm_146 (4, [(0, .ref 0)], [.int 0]) (zH (zb v 0 (upd (v 0) 10 0)) w t) _
  refine zk_T.br (f1 := (9, [(0, .ref 0)], [])) (f2 := (7, [(0, .ref 0)], [])) rfl (fun c1 => ?_) (fun c1 => absurd (by decide) (of_decide_eq_false c1))
  refine zk_T.adv 2 (f' := (11, [(0, .ref 0), (1, .int 1)], [])) (h' := zH (zb v 0 (upd (v 0) 10 0)) w t) rfl ?_
  refine zl_still D hD h8 () _ ?_
  cases z2 : zfr (zl_stillG D (v 21) (v 22) (v 32 0)) 60 1 () with
  | inl s =>
    show zk_T zk_mt zk_ex Ls xs zm_146 (44, [(0, .ref 0), (1, .int (nI (1 + 60)))], []) (zH (zb v 0 (upd (v 0) 10 0)) w t) _
    refine zk_T.adv 1 (f' := (46, [(0, .ref 0), (1, .int (nI (1 + 60)))], [.int (-2)])) (h' := zH (zb v 0 (upd (v 0) 10 0)) w t) rfl ?_
    exact zk_T.rt rfl rfl (by simp only [zr_still, z2])
  | inr r =>
    show ((some (Value.int r), zH (zb v 0 (upd (v 0) 10 0)) w t) : Option Value × zk_H) = _
    simp only [zr_still, z2]
/-- BasketKeep.danger -/
theorem zK_danger_t (x : Int32) (hx : v 0 2 = 0 ∨ x < 0 ∨ v 20 1 ≤ x) (k : Int32) : zk_Cr zk_mt zk_ex Ls xs 135 [.ref 0, .int x, .int k] (zH v w t) (some (.int (-1)), zH (zb v 0 (upd (v 0) 10 1)) w t) := by
  refine zk_Cr.of (K := zm_135) rfl rfl rfl ?_
  show zk_T zk_mt zk_ex Ls xs zm_135 (0, [(0, .ref 0), (1, .int x), (2, .int k)], []) (zH v w t) _
  refine zk_T.adv 2 (f' := (2, [(0, .ref 0), (1, .int x), (2, .int k)], [.int x, .ref 0])) (h' := zH v w t) rfl ?_
  refine zk_T.cl (v := some (.int 1)) (h' := zH (zb v 0 (upd (v 0) 10 1)) w t) rfl (zs_noDanger_t (v := v) x hx) ?_
  show zk_T zk_mt zk_ex Ls xs zm_135 (5, [(0, .ref 0), (1, .int x), (2, .int k)], [.int 1]) (zH (zb v 0 (upd (v 0) 10 1)) w t) _
  refine zk_T.br (f1 := (10, [(0, .ref 0), (1, .int x), (2, .int k)], [])) (f2 := (8, [(0, .ref 0), (1, .int x), (2, .int k)], [])) rfl (fun c1 => absurd (of_decide_eq_true c1) (by decide)) (fun c1 => ?_)
  refine zk_T.adv 1 (f' := (9, [(0, .ref 0), (1, .int x), (2, .int k)], [.int (-1)])) (h' := zH (zb v 0 (upd (v 0) 10 1)) w t) rfl ?_
  exact zk_T.rt rfl rfl (by rfl)
/-- BasketKeep.maker -/
theorem zK_maker_t (x : Int32) (hx : v 0 2 = 0 ∨ x < 0 ∨ v 20 4 ≤ x) (k : Int32) : zk_Cr zk_mt zk_ex Ls xs 142 [.ref 0, .int x, .int k] (zH v w t) (some (.int (-1)), zH (zb v 0 (upd (v 0) 10 1)) w t) := by
  refine zk_Cr.of (K := zm_142) rfl rfl rfl ?_
  show zk_T zk_mt zk_ex Ls xs zm_142 (0, [(0, .ref 0), (1, .int x), (2, .int k)], []) (zH v w t) _
  refine zk_T.adv 2 (f' := (2, [(0, .ref 0), (1, .int x), (2, .int k)], [.int x, .ref 0])) (h' := zH v w t) rfl ?_
  refine zk_T.cl (v := some (.int 1)) (h' := zH (zb v 0 (upd (v 0) 10 1)) w t) rfl (zs_noMaker_t (v := v) x hx) ?_
  show zk_T zk_mt zk_ex Ls xs zm_142 (5, [(0, .ref 0), (1, .int x), (2, .int k)], [.int 1]) (zH (zb v 0 (upd (v 0) 10 1)) w t) _
  refine zk_T.br (f1 := (10, [(0, .ref 0), (1, .int x), (2, .int k)], [])) (f2 := (8, [(0, .ref 0), (1, .int x), (2, .int k)], [])) rfl (fun c1 => absurd (of_decide_eq_true c1) (by decide)) (fun c1 => ?_)
  refine zk_T.adv 1 (f' := (9, [(0, .ref 0), (1, .int x), (2, .int k)], [.int (-1)])) (h' := zH (zb v 0 (upd (v 0) 10 1)) w t) rfl ?_
  exact zk_T.rt rfl rfl (by rfl)
/-- BasketKeep.good -/
theorem zK_good_t (x : Int32) (hx : v 0 2 = 0 ∨ x < 0 ∨ v 20 8 ≤ x) (k : Int32) : zk_Cr zk_mt zk_ex Ls xs 138 [.ref 0, .int x, .int k] (zH v w t) (some (.int (-1)), zH (zb v 0 (upd (v 0) 10 1)) w t) := by
  refine zk_Cr.of (K := zm_138) rfl rfl rfl ?_
  show zk_T zk_mt zk_ex Ls xs zm_138 (0, [(0, .ref 0), (1, .int x), (2, .int k)], []) (zH v w t) _
  refine zk_T.adv 2 (f' := (2, [(0, .ref 0), (1, .int x), (2, .int k)], [.int x, .ref 0])) (h' := zH v w t) rfl ?_
  refine zk_T.cl (v := some (.int 1)) (h' := zH (zb v 0 (upd (v 0) 10 1)) w t) rfl (zs_noGood_t (v := v) x hx) ?_
  show zk_T zk_mt zk_ex Ls xs zm_138 (5, [(0, .ref 0), (1, .int x), (2, .int k)], [.int 1]) (zH (zb v 0 (upd (v 0) 10 1)) w t) _
  refine zk_T.br (f1 := (10, [(0, .ref 0), (1, .int x), (2, .int k)], [])) (f2 := (8, [(0, .ref 0), (1, .int x), (2, .int k)], [])) rfl (fun c1 => absurd (of_decide_eq_true c1) (by decide)) (fun c1 => ?_)
  refine zk_T.adv 1 (f' := (9, [(0, .ref 0), (1, .int x), (2, .int k)], [.int (-1)])) (h' := zH (zb v 0 (upd (v 0) 10 1)) w t) rfl ?_
  exact zk_T.rt rfl rfl (by rfl)
/-- BasketKeep.danger -/
theorem zK_danger_0 (hst : v 0 2 = 1) (D : Nat) (hD : v 20 1 = nI D) (h8 : D ≤ 8) (Gn : Nat) (hG : v 20 8 = nI Gn) (h4 : Gn ≤ 4) (d : Nat) (hd : d < D) : zk_Cr zk_mt zk_ex Ls xs 135 [.ref 0, .int (nI d), .int 0] (zH v w t) (some (.int (v 21 d)), zH (zb v 0 (upd (v 0) 10 0)) w t) := by
  refine zk_Cr.of (K := zm_135) rfl rfl rfl ?_
  show zk_T zk_mt zk_ex Ls xs zm_135 (0, [(0, .ref 0), (1, .int (nI d)), (2, .int 0)], []) (zH v w t) _
  refine zk_T.adv 2 (f' := (2, [(0, .ref 0), (1, .int (nI d)), (2, .int 0)], [.int (nI d), .ref 0])) (h' := zH v w t) rfl ?_
  refine zk_T.cl (v := some (.int 0)) (h' := zH (zb v 0 (upd (v 0) 10 0)) w t) rfl (zs_noDanger_f (v := v) hst D hD h8 d hd) ?_
  show zk_T zk_mt zk_ex Ls xs zm_135 (5, [(0, .ref 0), (1, .int (nI d)), (2, .int 0)], [.int 0]) (zH (zb v 0 (upd (v 0) 10 0)) w t) _
  refine zk_T.br (f1 := (10, [(0, .ref 0), (1, .int (nI d)), (2, .int 0)], [])) (f2 := (8, [(0, .ref 0), (1, .int (nI d)), (2, .int 0)], [])) rfl (fun c1 => ?_) (fun c1 => absurd (by decide) (of_decide_eq_false c1))
  refine zk_T.adv 1 (f' := (11, [(0, .ref 0), (1, .int (nI d)), (2, .int 0)], [.int 0])) (h' := zH (zb v 0 (upd (v 0) 10 0)) w t) rfl ?_
  refine zk_T.adv 5 (f' := (48, [(0, .ref 0), (1, .int (nI d)), (2, .int 0)], [.int (nI d), .ref 21])) (h' := zH (zb v 0 (upd (v 0) 10 0)) w t) rfl ?_
  refine zk_T.ob (f' := (49, [(0, .ref 0), (1, .int (nI d)), (2, .int 0)], [.int (v 21 (nI d).toNatClampNeg)])) (h' := zH (zb v 0 (upd (v 0) 10 0)) w t) rfl (by first | exact zk_inN (by omega) (by decide) | decide) ?_
  rw [nI_clamp (show d < 2 ^ 31 by omega)]
  exact zk_T.rt rfl rfl (by rfl)
/-- BasketKeep.danger -/
theorem zK_danger_1 (hst : v 0 2 = 1) (D : Nat) (hD : v 20 1 = nI D) (h8 : D ≤ 8) (Gn : Nat) (hG : v 20 8 = nI Gn) (h4 : Gn ≤ 4) (d : Nat) (hd : d < D) : zk_Cr zk_mt zk_ex Ls xs 135 [.ref 0, .int (nI d), .int 1] (zH v w t) (some (.int (v 22 d)), zH (zb v 0 (upd (v 0) 10 0)) w t) := by
  refine zk_Cr.of (K := zm_135) rfl rfl rfl ?_
  show zk_T zk_mt zk_ex Ls xs zm_135 (0, [(0, .ref 0), (1, .int (nI d)), (2, .int 1)], []) (zH v w t) _
  refine zk_T.adv 2 (f' := (2, [(0, .ref 0), (1, .int (nI d)), (2, .int 1)], [.int (nI d), .ref 0])) (h' := zH v w t) rfl ?_
  refine zk_T.cl (v := some (.int 0)) (h' := zH (zb v 0 (upd (v 0) 10 0)) w t) rfl (zs_noDanger_f (v := v) hst D hD h8 d hd) ?_
  show zk_T zk_mt zk_ex Ls xs zm_135 (5, [(0, .ref 0), (1, .int (nI d)), (2, .int 1)], [.int 0]) (zH (zb v 0 (upd (v 0) 10 0)) w t) _
  refine zk_T.br (f1 := (10, [(0, .ref 0), (1, .int (nI d)), (2, .int 1)], [])) (f2 := (8, [(0, .ref 0), (1, .int (nI d)), (2, .int 1)], [])) rfl (fun c1 => ?_) (fun c1 => absurd (by decide) (of_decide_eq_false c1))
  refine zk_T.adv 1 (f' := (11, [(0, .ref 0), (1, .int (nI d)), (2, .int 1)], [.int 1])) (h' := zH (zb v 0 (upd (v 0) 10 0)) w t) rfl ?_
  refine zk_T.adv 5 (f' := (58, [(0, .ref 0), (1, .int (nI d)), (2, .int 1)], [.int (nI d), .ref 22])) (h' := zH (zb v 0 (upd (v 0) 10 0)) w t) rfl ?_
  refine zk_T.ob (f' := (59, [(0, .ref 0), (1, .int (nI d)), (2, .int 1)], [.int (v 22 (nI d).toNatClampNeg)])) (h' := zH (zb v 0 (upd (v 0) 10 0)) w t) rfl (by first | exact zk_inN (by omega) (by decide) | decide) ?_
  rw [nI_clamp (show d < 2 ^ 31 by omega)]
  exact zk_T.rt rfl rfl (by rfl)
/-- BasketKeep.danger -/
theorem zK_danger_2 (hst : v 0 2 = 1) (D : Nat) (hD : v 20 1 = nI D) (h8 : D ≤ 8) (Gn : Nat) (hG : v 20 8 = nI Gn) (h4 : Gn ≤ 4) (d : Nat) (hd : d < D) : zk_Cr zk_mt zk_ex Ls xs 135 [.ref 0, .int (nI d), .int 2] (zH v w t) (some (.int (zr_goodsFearing Gn (v 27) (nI d))), zH (zb v 0 (upd (v 0) 10 0)) w t) := by
  refine zk_Cr.of (K := zm_135) rfl rfl rfl ?_
  show zk_T zk_mt zk_ex Ls xs zm_135 (0, [(0, .ref 0), (1, .int (nI d)), (2, .int 2)], []) (zH v w t) _
  refine zk_T.adv 2 (f' := (2, [(0, .ref 0), (1, .int (nI d)), (2, .int 2)], [.int (nI d), .ref 0])) (h' := zH v w t) rfl ?_
  refine zk_T.cl (v := some (.int 0)) (h' := zH (zb v 0 (upd (v 0) 10 0)) w t) rfl (zs_noDanger_f (v := v) hst D hD h8 d hd) ?_
  show zk_T zk_mt zk_ex Ls xs zm_135 (5, [(0, .ref 0), (1, .int (nI d)), (2, .int 2)], [.int 0]) (zH (zb v 0 (upd (v 0) 10 0)) w t) _
  refine zk_T.br (f1 := (10, [(0, .ref 0), (1, .int (nI d)), (2, .int 2)], [])) (f2 := (8, [(0, .ref 0), (1, .int (nI d)), (2, .int 2)], [])) rfl (fun c1 => ?_) (fun c1 => absurd (by decide) (of_decide_eq_false c1))
  refine zk_T.adv 1 (f' := (11, [(0, .ref 0), (1, .int (nI d)), (2, .int 2)], [.int 2])) (h' := zH (zb v 0 (upd (v 0) 10 0)) w t) rfl ?_
  refine zk_T.adv 4 (f' := (65, [(0, .ref 0), (1, .int (nI d)), (2, .int 2)], [.int (nI d), .ref 20])) (h' := zH (zb v 0 (upd (v 0) 10 0)) w t) rfl ?_
  refine zk_T.cl (v := some (.int (zr_goodsFearing Gn (v 27) (nI d)))) (h' := zH (zb v 0 (upd (v 0) 10 0)) w t) rfl (zs_goodsFearing (v := (zb v 0 (upd (v 0) 10 0))) Gn hG h4 (nI d)) ?_
  show zk_T zk_mt zk_ex Ls xs zm_135 (68, [(0, .ref 0), (1, .int (nI d)), (2, .int 2)], [.int (zr_goodsFearing Gn (v 27) (nI d))]) (zH (zb v 0 (upd (v 0) 10 0)) w t) _
  exact zk_T.rt rfl rfl (by rfl)
/-- BasketKeep.danger -/
theorem zK_danger_d (hst : v 0 2 = 1) (D : Nat) (hD : v 20 1 = nI D) (h8 : D ≤ 8) (d : Nat) (hd : d < D) (x : Int32) (hw : x.toInt < 0 ∨ 3 < x.toInt) : zk_Cr zk_mt zk_ex Ls xs 135 [.ref 0, .int (nI d), .int x] (zH v w t) (some (.int (-1)), zH (zb v 0 (upd (v 0) 10 1)) w t) := by
  refine zk_Cr.of (K := zm_135) rfl rfl rfl ?_
  show zk_T zk_mt zk_ex Ls xs zm_135 (0, [(0, .ref 0), (1, .int (nI d)), (2, .int x)], []) (zH v w t) _
  refine zk_T.adv 2 (f' := (2, [(0, .ref 0), (1, .int (nI d)), (2, .int x)], [.int (nI d), .ref 0])) (h' := zH v w t) rfl ?_
  refine zk_T.cl (v := some (.int 0)) (h' := zH (zb v 0 (upd (v 0) 10 0)) w t) rfl (zs_noDanger_f (v := v) hst D hD h8 d hd) ?_
  show zk_T zk_mt zk_ex Ls xs zm_135 (5, [(0, .ref 0), (1, .int (nI d)), (2, .int x)], [.int 0]) (zH (zb v 0 (upd (v 0) 10 0)) w t) _
  refine zk_T.br (f1 := (10, [(0, .ref 0), (1, .int (nI d)), (2, .int x)], [])) (f2 := (8, [(0, .ref 0), (1, .int (nI d)), (2, .int x)], [])) rfl (fun c1 => ?_) (fun c1 => absurd (by decide) (of_decide_eq_false c1))
  refine zk_T.adv 1 (f' := (11, [(0, .ref 0), (1, .int (nI d)), (2, .int x)], [.int x])) (h' := zH (zb v 0 (upd (v 0) 10 0)) w t) rfl ?_
  refine zk_T.tsd (tgt := 85) rfl hw rfl ?_
  show zk_T zk_mt zk_ex Ls xs zm_135 (85, [(0, .ref 0), (1, .int (nI d)), (2, .int x)], []) (zH (zb v 0 (upd (v 0) 10 0)) w t) _
  refine zk_T.adv 1 (f' := (86, [(0, .ref 0), (1, .int (nI d)), (2, .int x)], [.ref 0])) (h' := zH (zb v 0 (upd (v 0) 10 0)) w t) rfl ?_
  refine zk_T.cl (v := some (.int (-1))) (h' := zH (zb v 0 (upd (v 0) 10 1)) w t) rfl zs_noSuch ?_
  show zk_T zk_mt zk_ex Ls xs zm_135 (89, [(0, .ref 0), (1, .int (nI d)), (2, .int x)], [.int (-1)]) (zH (zb v 0 (upd (v 0) 10 1)) w t) _
  exact zk_T.rt rfl rfl (by rfl)
/-- BasketKeep.maker -/
theorem zK_maker_0 (hst : v 0 2 = 1) (Mn : Nat) (hM : v 20 4 = nI Mn) (h5 : Mn ≤ 5) (e : Nat) (he : e < Mn) : zk_Cr zk_mt zk_ex Ls xs 142 [.ref 0, .int (nI e), .int 0] (zH v w t) (some (.int (v 23 e)), zH (zb v 0 (upd (v 0) 10 0)) w t) := by
  refine zk_Cr.of (K := zm_142) rfl rfl rfl ?_
  show zk_T zk_mt zk_ex Ls xs zm_142 (0, [(0, .ref 0), (1, .int (nI e)), (2, .int 0)], []) (zH v w t) _
  refine zk_T.adv 2 (f' := (2, [(0, .ref 0), (1, .int (nI e)), (2, .int 0)], [.int (nI e), .ref 0])) (h' := zH v w t) rfl ?_
  refine zk_T.cl (v := some (.int 0)) (h' := zH (zb v 0 (upd (v 0) 10 0)) w t) rfl (zs_noMaker_f (v := v) hst Mn hM h5 e he) ?_
  show zk_T zk_mt zk_ex Ls xs zm_142 (5, [(0, .ref 0), (1, .int (nI e)), (2, .int 0)], [.int 0]) (zH (zb v 0 (upd (v 0) 10 0)) w t) _
  refine zk_T.br (f1 := (10, [(0, .ref 0), (1, .int (nI e)), (2, .int 0)], [])) (f2 := (8, [(0, .ref 0), (1, .int (nI e)), (2, .int 0)], [])) rfl (fun c1 => ?_) (fun c1 => absurd (by decide) (of_decide_eq_false c1))
  refine zk_T.adv 1 (f' := (11, [(0, .ref 0), (1, .int (nI e)), (2, .int 0)], [.int 0])) (h' := zH (zb v 0 (upd (v 0) 10 0)) w t) rfl ?_
  refine zk_T.adv 5 (f' := (48, [(0, .ref 0), (1, .int (nI e)), (2, .int 0)], [.int (nI e), .ref 23])) (h' := zH (zb v 0 (upd (v 0) 10 0)) w t) rfl ?_
  refine zk_T.ob (f' := (49, [(0, .ref 0), (1, .int (nI e)), (2, .int 0)], [.int (v 23 (nI e).toNatClampNeg)])) (h' := zH (zb v 0 (upd (v 0) 10 0)) w t) rfl (by first | exact zk_inN (by omega) (by decide) | decide) ?_
  rw [nI_clamp (show e < 2 ^ 31 by omega)]
  exact zk_T.rt rfl rfl (by rfl)
/-- BasketKeep.maker -/
theorem zK_maker_1 (hst : v 0 2 = 1) (Mn : Nat) (hM : v 20 4 = nI Mn) (h5 : Mn ≤ 5) (e : Nat) (he : e < Mn) : zk_Cr zk_mt zk_ex Ls xs 142 [.ref 0, .int (nI e), .int 1] (zH v w t) (some (.int (v 35 e)), zH (zb v 0 (upd (v 0) 10 0)) w t) := by
  refine zk_Cr.of (K := zm_142) rfl rfl rfl ?_
  show zk_T zk_mt zk_ex Ls xs zm_142 (0, [(0, .ref 0), (1, .int (nI e)), (2, .int 1)], []) (zH v w t) _
  refine zk_T.adv 2 (f' := (2, [(0, .ref 0), (1, .int (nI e)), (2, .int 1)], [.int (nI e), .ref 0])) (h' := zH v w t) rfl ?_
  refine zk_T.cl (v := some (.int 0)) (h' := zH (zb v 0 (upd (v 0) 10 0)) w t) rfl (zs_noMaker_f (v := v) hst Mn hM h5 e he) ?_
  show zk_T zk_mt zk_ex Ls xs zm_142 (5, [(0, .ref 0), (1, .int (nI e)), (2, .int 1)], [.int 0]) (zH (zb v 0 (upd (v 0) 10 0)) w t) _
  refine zk_T.br (f1 := (10, [(0, .ref 0), (1, .int (nI e)), (2, .int 1)], [])) (f2 := (8, [(0, .ref 0), (1, .int (nI e)), (2, .int 1)], [])) rfl (fun c1 => ?_) (fun c1 => absurd (by decide) (of_decide_eq_false c1))
  refine zk_T.adv 1 (f' := (11, [(0, .ref 0), (1, .int (nI e)), (2, .int 1)], [.int 1])) (h' := zH (zb v 0 (upd (v 0) 10 0)) w t) rfl ?_
  refine zk_T.adv 5 (f' := (58, [(0, .ref 0), (1, .int (nI e)), (2, .int 1)], [.int (nI e), .ref 35])) (h' := zH (zb v 0 (upd (v 0) 10 0)) w t) rfl ?_
  refine zk_T.ob (f' := (59, [(0, .ref 0), (1, .int (nI e)), (2, .int 1)], [.int (v 35 (nI e).toNatClampNeg)])) (h' := zH (zb v 0 (upd (v 0) 10 0)) w t) rfl (by first | exact zk_inN (by omega) (by decide) | decide) ?_
  rw [nI_clamp (show e < 2 ^ 31 by omega)]
  exact zk_T.rt rfl rfl (by rfl)
/-- BasketKeep.maker -/
theorem zK_maker_2 (hst : v 0 2 = 1) (Mn : Nat) (hM : v 20 4 = nI Mn) (h5 : Mn ≤ 5) (e : Nat) (he : e < Mn) : zk_Cr zk_mt zk_ex Ls xs 142 [.ref 0, .int (nI e), .int 2] (zH v w t) (some (.int (v 34 e)), zH (zb v 0 (upd (v 0) 10 0)) w t) := by
  refine zk_Cr.of (K := zm_142) rfl rfl rfl ?_
  show zk_T zk_mt zk_ex Ls xs zm_142 (0, [(0, .ref 0), (1, .int (nI e)), (2, .int 2)], []) (zH v w t) _
  refine zk_T.adv 2 (f' := (2, [(0, .ref 0), (1, .int (nI e)), (2, .int 2)], [.int (nI e), .ref 0])) (h' := zH v w t) rfl ?_
  refine zk_T.cl (v := some (.int 0)) (h' := zH (zb v 0 (upd (v 0) 10 0)) w t) rfl (zs_noMaker_f (v := v) hst Mn hM h5 e he) ?_
  show zk_T zk_mt zk_ex Ls xs zm_142 (5, [(0, .ref 0), (1, .int (nI e)), (2, .int 2)], [.int 0]) (zH (zb v 0 (upd (v 0) 10 0)) w t) _
  refine zk_T.br (f1 := (10, [(0, .ref 0), (1, .int (nI e)), (2, .int 2)], [])) (f2 := (8, [(0, .ref 0), (1, .int (nI e)), (2, .int 2)], [])) rfl (fun c1 => ?_) (fun c1 => absurd (by decide) (of_decide_eq_false c1))
  refine zk_T.adv 1 (f' := (11, [(0, .ref 0), (1, .int (nI e)), (2, .int 2)], [.int 2])) (h' := zH (zb v 0 (upd (v 0) 10 0)) w t) rfl ?_
  refine zk_T.adv 5 (f' := (68, [(0, .ref 0), (1, .int (nI e)), (2, .int 2)], [.int (nI e), .ref 34])) (h' := zH (zb v 0 (upd (v 0) 10 0)) w t) rfl ?_
  refine zk_T.ob (f' := (69, [(0, .ref 0), (1, .int (nI e)), (2, .int 2)], [.int (v 34 (nI e).toNatClampNeg)])) (h' := zH (zb v 0 (upd (v 0) 10 0)) w t) rfl (by first | exact zk_inN (by omega) (by decide) | decide) ?_
  rw [nI_clamp (show e < 2 ^ 31 by omega)]
  exact zk_T.rt rfl rfl (by rfl)
/-- BasketKeep.maker -/
theorem zK_maker_d (hst : v 0 2 = 1) (Mn : Nat) (hM : v 20 4 = nI Mn) (h5 : Mn ≤ 5) (e : Nat) (he : e < Mn) (x : Int32) (hw : x.toInt < 0 ∨ 3 < x.toInt) : zk_Cr zk_mt zk_ex Ls xs 142 [.ref 0, .int (nI e), .int x] (zH v w t) (some (.int (-1)), zH (zb v 0 (upd (v 0) 10 1)) w t) := by
  refine zk_Cr.of (K := zm_142) rfl rfl rfl ?_
  show zk_T zk_mt zk_ex Ls xs zm_142 (0, [(0, .ref 0), (1, .int (nI e)), (2, .int x)], []) (zH v w t) _
  refine zk_T.adv 2 (f' := (2, [(0, .ref 0), (1, .int (nI e)), (2, .int x)], [.int (nI e), .ref 0])) (h' := zH v w t) rfl ?_
  refine zk_T.cl (v := some (.int 0)) (h' := zH (zb v 0 (upd (v 0) 10 0)) w t) rfl (zs_noMaker_f (v := v) hst Mn hM h5 e he) ?_
  show zk_T zk_mt zk_ex Ls xs zm_142 (5, [(0, .ref 0), (1, .int (nI e)), (2, .int x)], [.int 0]) (zH (zb v 0 (upd (v 0) 10 0)) w t) _
  refine zk_T.br (f1 := (10, [(0, .ref 0), (1, .int (nI e)), (2, .int x)], [])) (f2 := (8, [(0, .ref 0), (1, .int (nI e)), (2, .int x)], [])) rfl (fun c1 => ?_) (fun c1 => absurd (by decide) (of_decide_eq_false c1))
  refine zk_T.adv 1 (f' := (11, [(0, .ref 0), (1, .int (nI e)), (2, .int x)], [.int x])) (h' := zH (zb v 0 (upd (v 0) 10 0)) w t) rfl ?_
  refine zk_T.tsd (tgt := 86) rfl hw rfl ?_
  show zk_T zk_mt zk_ex Ls xs zm_142 (86, [(0, .ref 0), (1, .int (nI e)), (2, .int x)], []) (zH (zb v 0 (upd (v 0) 10 0)) w t) _
  refine zk_T.adv 1 (f' := (87, [(0, .ref 0), (1, .int (nI e)), (2, .int x)], [.ref 0])) (h' := zH (zb v 0 (upd (v 0) 10 0)) w t) rfl ?_
  refine zk_T.cl (v := some (.int (-1))) (h' := zH (zb v 0 (upd (v 0) 10 1)) w t) rfl zs_noSuch ?_
  show zk_T zk_mt zk_ex Ls xs zm_142 (90, [(0, .ref 0), (1, .int (nI e)), (2, .int x)], [.int (-1)]) (zH (zb v 0 (upd (v 0) 10 1)) w t) _
  exact zk_T.rt rfl rfl (by rfl)
/-- BasketKeep.good -/
theorem zK_good_0 (hst : v 0 2 = 1) (Gn : Nat) (hG : v 20 8 = nI Gn) (h4 : Gn ≤ 4) (a : Nat) (ha : a < Gn) : zk_Cr zk_mt zk_ex Ls xs 138 [.ref 0, .int (nI a), .int 0] (zH v w t) (some (.int (v 26 a)), zH (zb v 0 (upd (v 0) 10 0)) w t) := by
  refine zk_Cr.of (K := zm_138) rfl rfl rfl ?_
  show zk_T zk_mt zk_ex Ls xs zm_138 (0, [(0, .ref 0), (1, .int (nI a)), (2, .int 0)], []) (zH v w t) _
  refine zk_T.adv 2 (f' := (2, [(0, .ref 0), (1, .int (nI a)), (2, .int 0)], [.int (nI a), .ref 0])) (h' := zH v w t) rfl ?_
  refine zk_T.cl (v := some (.int 0)) (h' := zH (zb v 0 (upd (v 0) 10 0)) w t) rfl (zs_noGood_f (v := v) hst Gn hG h4 a ha) ?_
  show zk_T zk_mt zk_ex Ls xs zm_138 (5, [(0, .ref 0), (1, .int (nI a)), (2, .int 0)], [.int 0]) (zH (zb v 0 (upd (v 0) 10 0)) w t) _
  refine zk_T.br (f1 := (10, [(0, .ref 0), (1, .int (nI a)), (2, .int 0)], [])) (f2 := (8, [(0, .ref 0), (1, .int (nI a)), (2, .int 0)], [])) rfl (fun c1 => ?_) (fun c1 => absurd (by decide) (of_decide_eq_false c1))
  refine zk_T.adv 1 (f' := (11, [(0, .ref 0), (1, .int (nI a)), (2, .int 0)], [.int 0])) (h' := zH (zb v 0 (upd (v 0) 10 0)) w t) rfl ?_
  refine zk_T.adv 5 (f' := (48, [(0, .ref 0), (1, .int (nI a)), (2, .int 0)], [.int (nI a), .ref 26])) (h' := zH (zb v 0 (upd (v 0) 10 0)) w t) rfl ?_
  refine zk_T.ob (f' := (49, [(0, .ref 0), (1, .int (nI a)), (2, .int 0)], [.int (v 26 (nI a).toNatClampNeg)])) (h' := zH (zb v 0 (upd (v 0) 10 0)) w t) rfl (by first | exact zk_inN (by omega) (by decide) | decide) ?_
  rw [nI_clamp (show a < 2 ^ 31 by omega)]
  exact zk_T.rt rfl rfl (by rfl)
/-- BasketKeep.good -/
theorem zK_good_1 (hst : v 0 2 = 1) (Gn : Nat) (hG : v 20 8 = nI Gn) (h4 : Gn ≤ 4) (a : Nat) (ha : a < Gn) : zk_Cr zk_mt zk_ex Ls xs 138 [.ref 0, .int (nI a), .int 1] (zH v w t) (some (.int (v 27 a)), zH (zb v 0 (upd (v 0) 10 0)) w t) := by
  refine zk_Cr.of (K := zm_138) rfl rfl rfl ?_
  show zk_T zk_mt zk_ex Ls xs zm_138 (0, [(0, .ref 0), (1, .int (nI a)), (2, .int 1)], []) (zH v w t) _
  refine zk_T.adv 2 (f' := (2, [(0, .ref 0), (1, .int (nI a)), (2, .int 1)], [.int (nI a), .ref 0])) (h' := zH v w t) rfl ?_
  refine zk_T.cl (v := some (.int 0)) (h' := zH (zb v 0 (upd (v 0) 10 0)) w t) rfl (zs_noGood_f (v := v) hst Gn hG h4 a ha) ?_
  show zk_T zk_mt zk_ex Ls xs zm_138 (5, [(0, .ref 0), (1, .int (nI a)), (2, .int 1)], [.int 0]) (zH (zb v 0 (upd (v 0) 10 0)) w t) _
  refine zk_T.br (f1 := (10, [(0, .ref 0), (1, .int (nI a)), (2, .int 1)], [])) (f2 := (8, [(0, .ref 0), (1, .int (nI a)), (2, .int 1)], [])) rfl (fun c1 => ?_) (fun c1 => absurd (by decide) (of_decide_eq_false c1))
  refine zk_T.adv 1 (f' := (11, [(0, .ref 0), (1, .int (nI a)), (2, .int 1)], [.int 1])) (h' := zH (zb v 0 (upd (v 0) 10 0)) w t) rfl ?_
  refine zk_T.adv 5 (f' := (58, [(0, .ref 0), (1, .int (nI a)), (2, .int 1)], [.int (nI a), .ref 27])) (h' := zH (zb v 0 (upd (v 0) 10 0)) w t) rfl ?_
  refine zk_T.ob (f' := (59, [(0, .ref 0), (1, .int (nI a)), (2, .int 1)], [.int (v 27 (nI a).toNatClampNeg)])) (h' := zH (zb v 0 (upd (v 0) 10 0)) w t) rfl (by first | exact zk_inN (by omega) (by decide) | decide) ?_
  rw [nI_clamp (show a < 2 ^ 31 by omega)]
  exact zk_T.rt rfl rfl (by rfl)
/-- BasketKeep.good -/
theorem zK_good_2 (hst : v 0 2 = 1) (Gn : Nat) (hG : v 20 8 = nI Gn) (h4 : Gn ≤ 4) (a : Nat) (ha : a < Gn) : zk_Cr zk_mt zk_ex Ls xs 138 [.ref 0, .int (nI a), .int 2] (zH v w t) (some (.int (v 33 a)), zH (zb v 0 (upd (v 0) 10 0)) w t) := by
  refine zk_Cr.of (K := zm_138) rfl rfl rfl ?_
  show zk_T zk_mt zk_ex Ls xs zm_138 (0, [(0, .ref 0), (1, .int (nI a)), (2, .int 2)], []) (zH v w t) _
  refine zk_T.adv 2 (f' := (2, [(0, .ref 0), (1, .int (nI a)), (2, .int 2)], [.int (nI a), .ref 0])) (h' := zH v w t) rfl ?_
  refine zk_T.cl (v := some (.int 0)) (h' := zH (zb v 0 (upd (v 0) 10 0)) w t) rfl (zs_noGood_f (v := v) hst Gn hG h4 a ha) ?_
  show zk_T zk_mt zk_ex Ls xs zm_138 (5, [(0, .ref 0), (1, .int (nI a)), (2, .int 2)], [.int 0]) (zH (zb v 0 (upd (v 0) 10 0)) w t) _
  refine zk_T.br (f1 := (10, [(0, .ref 0), (1, .int (nI a)), (2, .int 2)], [])) (f2 := (8, [(0, .ref 0), (1, .int (nI a)), (2, .int 2)], [])) rfl (fun c1 => ?_) (fun c1 => absurd (by decide) (of_decide_eq_false c1))
  refine zk_T.adv 1 (f' := (11, [(0, .ref 0), (1, .int (nI a)), (2, .int 2)], [.int 2])) (h' := zH (zb v 0 (upd (v 0) 10 0)) w t) rfl ?_
  refine zk_T.adv 5 (f' := (68, [(0, .ref 0), (1, .int (nI a)), (2, .int 2)], [.int (nI a), .ref 33])) (h' := zH (zb v 0 (upd (v 0) 10 0)) w t) rfl ?_
  refine zk_T.ob (f' := (69, [(0, .ref 0), (1, .int (nI a)), (2, .int 2)], [.int (v 33 (nI a).toNatClampNeg)])) (h' := zH (zb v 0 (upd (v 0) 10 0)) w t) rfl (by first | exact zk_inN (by omega) (by decide) | decide) ?_
  rw [nI_clamp (show a < 2 ^ 31 by omega)]
  exact zk_T.rt rfl rfl (by rfl)
def zr_good3 (lo : Int32) (a : Nat) : Int32 := if (zr_isLost lo (nI a)) = 0 then 0 else 1
/-- BasketKeep.good -/
theorem zK_good_3 (hst : v 0 2 = 1) (Gn : Nat) (hG : v 20 8 = nI Gn) (h4 : Gn ≤ 4) (a : Nat) (ha : a < Gn) : zk_Cr zk_mt zk_ex Ls xs 138 [.ref 0, .int (nI a), .int 3] (zH v w t) (some (.int (zr_good3 (v 32 1) a)), zH (zb v 0 (upd (v 0) 10 0)) w t) := by
  refine zk_Cr.of (K := zm_138) rfl rfl rfl ?_
  show zk_T zk_mt zk_ex Ls xs zm_138 (0, [(0, .ref 0), (1, .int (nI a)), (2, .int 3)], []) (zH v w t) _
  refine zk_T.adv 2 (f' := (2, [(0, .ref 0), (1, .int (nI a)), (2, .int 3)], [.int (nI a), .ref 0])) (h' := zH v w t) rfl ?_
  refine zk_T.cl (v := some (.int 0)) (h' := zH (zb v 0 (upd (v 0) 10 0)) w t) rfl (zs_noGood_f (v := v) hst Gn hG h4 a ha) ?_
  show zk_T zk_mt zk_ex Ls xs zm_138 (5, [(0, .ref 0), (1, .int (nI a)), (2, .int 3)], [.int 0]) (zH (zb v 0 (upd (v 0) 10 0)) w t) _
  refine zk_T.br (f1 := (10, [(0, .ref 0), (1, .int (nI a)), (2, .int 3)], [])) (f2 := (8, [(0, .ref 0), (1, .int (nI a)), (2, .int 3)], [])) rfl (fun c1 => ?_) (fun c1 => absurd (by decide) (of_decide_eq_false c1))
  refine zk_T.adv 1 (f' := (11, [(0, .ref 0), (1, .int (nI a)), (2, .int 3)], [.int 3])) (h' := zH (zb v 0 (upd (v 0) 10 0)) w t) rfl ?_
  refine zk_T.adv 4 (f' := (75, [(0, .ref 0), (1, .int (nI a)), (2, .int 3)], [.int (nI a), .ref 32])) (h' := zH (zb v 0 (upd (v 0) 10 0)) w t) rfl ?_
  refine zk_T.cl (v := some (.int (zr_isLost (v 32 1) (nI a)))) (h' := zH (zb v 0 (upd (v 0) 10 0)) w t) rfl (zs_isLost_now (nI a)) ?_
  show zk_T zk_mt zk_ex Ls xs zm_138 (78, [(0, .ref 0), (1, .int (nI a)), (2, .int 3)], [.int (zr_isLost (v 32 1) (nI a))]) (zH (zb v 0 (upd (v 0) 10 0)) w t) _
  refine zk_T.br (f1 := (85, [(0, .ref 0), (1, .int (nI a)), (2, .int 3)], [])) (f2 := (81, [(0, .ref 0), (1, .int (nI a)), (2, .int 3)], [])) rfl (fun c2 => ?_) (fun c2 => ?_)
  · have c2 : (zr_isLost (v 32 1) (nI a)) = 0 := of_decide_eq_true c2
    refine zk_T.adv 1 (f' := (86, [(0, .ref 0), (1, .int (nI a)), (2, .int 3)], [.int 0])) (h' := zH (zb v 0 (upd (v 0) 10 0)) w t) rfl ?_
    exact zk_T.rt rfl rfl (by simp only [zr_good3, if_pos c2])
  · have c2 : ¬ ((zr_isLost (v 32 1) (nI a)) = 0) := of_decide_eq_false c2
    refine zk_T.adv 2 (f' := (86, [(0, .ref 0), (1, .int (nI a)), (2, .int 3)], [.int 1])) (h' := zH (zb v 0 (upd (v 0) 10 0)) w t) rfl ?_
    exact zk_T.rt rfl rfl (by simp only [zr_good3, if_neg c2])
/-- BasketKeep.good -/
theorem zK_good_d (hst : v 0 2 = 1) (Gn : Nat) (hG : v 20 8 = nI Gn) (h4 : Gn ≤ 4) (a : Nat) (ha : a < Gn) (x : Int32) (hw : x.toInt < 0 ∨ 3 < x.toInt) : zk_Cr zk_mt zk_ex Ls xs 138 [.ref 0, .int (nI a), .int x] (zH v w t) (some (.int (-1)), zH (zb v 0 (upd (v 0) 10 1)) w t) := by
  refine zk_Cr.of (K := zm_138) rfl rfl rfl ?_
  show zk_T zk_mt zk_ex Ls xs zm_138 (0, [(0, .ref 0), (1, .int (nI a)), (2, .int x)], []) (zH v w t) _
  refine zk_T.adv 2 (f' := (2, [(0, .ref 0), (1, .int (nI a)), (2, .int x)], [.int (nI a), .ref 0])) (h' := zH v w t) rfl ?_
  refine zk_T.cl (v := some (.int 0)) (h' := zH (zb v 0 (upd (v 0) 10 0)) w t) rfl (zs_noGood_f (v := v) hst Gn hG h4 a ha) ?_
  show zk_T zk_mt zk_ex Ls xs zm_138 (5, [(0, .ref 0), (1, .int (nI a)), (2, .int x)], [.int 0]) (zH (zb v 0 (upd (v 0) 10 0)) w t) _
  refine zk_T.br (f1 := (10, [(0, .ref 0), (1, .int (nI a)), (2, .int x)], [])) (f2 := (8, [(0, .ref 0), (1, .int (nI a)), (2, .int x)], [])) rfl (fun c1 => ?_) (fun c1 => absurd (by decide) (of_decide_eq_false c1))
  refine zk_T.adv 1 (f' := (11, [(0, .ref 0), (1, .int (nI a)), (2, .int x)], [.int x])) (h' := zH (zb v 0 (upd (v 0) 10 0)) w t) rfl ?_
  refine zk_T.tsd (tgt := 87) rfl hw rfl ?_
  show zk_T zk_mt zk_ex Ls xs zm_138 (87, [(0, .ref 0), (1, .int (nI a)), (2, .int x)], []) (zH (zb v 0 (upd (v 0) 10 0)) w t) _
  refine zk_T.adv 1 (f' := (88, [(0, .ref 0), (1, .int (nI a)), (2, .int x)], [.ref 0])) (h' := zH (zb v 0 (upd (v 0) 10 0)) w t) rfl ?_
  refine zk_T.cl (v := some (.int (-1))) (h' := zH (zb v 0 (upd (v 0) 10 1)) w t) rfl zs_noSuch ?_
  show zk_T zk_mt zk_ex Ls xs zm_138 (91, [(0, .ref 0), (1, .int (nI a)), (2, .int x)], [.int (-1)]) (zH (zb v 0 (upd (v 0) 10 1)) w t) _
  exact zk_T.rt rfl rfl (by rfl)
end Z32
