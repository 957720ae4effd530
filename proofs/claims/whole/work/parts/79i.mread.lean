/-! contracts: the reference: its reader, the smallest -/
section Z58
variable {Ls : Nat} {xs : Nat → Int32} {v : Nat → Nat → Int32} {w : Nat → Nat → Int64} {t : zk_H}
def zr_misSmall (c : Int32) : Int32 := if c < 97 then 0 else (if 122 < c then 0 else 1)
/-- BasketKeepModel.isSmall -/
theorem zs_misSmall (c : Int32) : zk_Cr zk_mt zk_ex Ls xs 53 [.int c] (zH v w t) (some (.int (zr_misSmall c)), zH v w t) := by
  refine zk_Cr.of (K := zm_53) rfl rfl rfl ?_
  show zk_T zk_mt zk_ex Ls xs zm_53 (0, [(0, .int c)], []) (zH v w t) _
  refine zk_T.adv 2 (f' := (3, [(0, .int c)], [.int 97, .int c])) (h' := zH v w t) rfl ?_
  refine zk_T.br (f1 := (16, [(0, .int c)], [])) (f2 := (6, [(0, .int c)], [])) rfl (fun c1 => ?_) (fun c1 => ?_)
  · have c1 : c < 97 := of_decide_eq_true c1
    refine zk_T.adv 1 (f' := (17, [(0, .int c)], [.int 0])) (h' := zH v w t) rfl ?_
    exact zk_T.rt rfl rfl (by simp only [zr_misSmall, if_pos c1])
  · have c1 : ¬ (c < 97) := of_decide_eq_false c1
    refine zk_T.adv 2 (f' := (9, [(0, .int c)], [.int 122, .int c])) (h' := zH v w t) rfl ?_
    refine zk_T.br (f1 := (16, [(0, .int c)], [])) (f2 := (12, [(0, .int c)], [])) rfl (fun c2 => ?_) (fun c2 => ?_)
    · have c2 : 122 < c := of_decide_eq_true c2
      refine zk_T.adv 1 (f' := (17, [(0, .int c)], [.int 0])) (h' := zH v w t) rfl ?_
      exact zk_T.rt rfl rfl (by simp only [zr_misSmall, if_neg c1, if_pos c2])
    · have c2 : ¬ (122 < c) := of_decide_eq_false c2
      refine zk_T.adv 2 (f' := (17, [(0, .int c)], [.int 1])) (h' := zH v w t) rfl ?_
      exact zk_T.rt rfl rfl (by simp only [zr_misSmall, if_neg c1, if_neg c2])
def zr_misDigit (c : Int32) : Int32 := if c < 48 then 0 else (if 57 < c then 0 else 1)
/-- BasketKeepModel.isDigit -/
theorem zs_misDigit (c : Int32) : zk_Cr zk_mt zk_ex Ls xs 51 [.int c] (zH v w t) (some (.int (zr_misDigit c)), zH v w t) := by
  refine zk_Cr.of (K := zm_51) rfl rfl rfl ?_
  show zk_T zk_mt zk_ex Ls xs zm_51 (0, [(0, .int c)], []) (zH v w t) _
  refine zk_T.adv 2 (f' := (3, [(0, .int c)], [.int 48, .int c])) (h' := zH v w t) rfl ?_
  refine zk_T.br (f1 := (16, [(0, .int c)], [])) (f2 := (6, [(0, .int c)], [])) rfl (fun c1 => ?_) (fun c1 => ?_)
  · have c1 : c < 48 := of_decide_eq_true c1
    refine zk_T.adv 1 (f' := (17, [(0, .int c)], [.int 0])) (h' := zH v w t) rfl ?_
    exact zk_T.rt rfl rfl (by simp only [zr_misDigit, if_pos c1])
  · have c1 : ¬ (c < 48) := of_decide_eq_false c1
    refine zk_T.adv 2 (f' := (9, [(0, .int c)], [.int 57, .int c])) (h' := zH v w t) rfl ?_
    refine zk_T.br (f1 := (16, [(0, .int c)], [])) (f2 := (12, [(0, .int c)], [])) rfl (fun c2 => ?_) (fun c2 => ?_)
    · have c2 : 57 < c := of_decide_eq_true c2
      refine zk_T.adv 1 (f' := (17, [(0, .int c)], [.int 0])) (h' := zH v w t) rfl ?_
      exact zk_T.rt rfl rfl (by simp only [zr_misDigit, if_neg c1, if_pos c2])
    · have c2 : ¬ (57 < c) := of_decide_eq_false c2
      refine zk_T.adv 2 (f' := (17, [(0, .int c)], [.int 1])) (h' := zH v w t) rfl ?_
      exact zk_T.rt rfl rfl (by simp only [zr_misDigit, if_neg c1, if_neg c2])
/-- BasketKeepModel.wrong -/
theorem zs_mwrong_1 (hf : v 68 13 = 1) (x y : Int32) : zk_Cr zk_mt zk_ex Ls xs 68 [.ref 69, .int x, .int y] (zH v w t) (none, zH v w t) := by
  refine zk_Cr.of (K := zm_68) rfl rfl rfl ?_
  show zk_T zk_mt zk_ex Ls xs zm_68 (0, [(0, .ref 69), (1, .int x), (2, .int y)], []) (zH v w t) _
  refine zk_T.adv 2 (f' := (4, [(0, .ref 69), (1, .int x), (2, .int y)], [.int (v 68 13)])) (h' := zH v w t) rfl ?_
  rw [show (v 68 13) = 1 from hf]
  refine zk_T.br (f1 := (8, [(0, .ref 69), (1, .int x), (2, .int y)], [])) (f2 := (7, [(0, .ref 69), (1, .int x), (2, .int y)], [])) rfl (fun c1 => absurd (of_decide_eq_true c1) (by decide)) (fun c1 => ?_)
  exact zk_T.rt rfl rfl (by rfl)
/-- BasketKeepModel.wrong -/
theorem zs_mwrong_0 (hf : v 68 13 = 0) (x y : Int32) : zk_Cr zk_mt zk_ex Ls xs 68 [.ref 69, .int x, .int y] (zH v w t) (none, zH (zb v 68 (upd (upd (upd (v 68) 9 x) 10 y) 13 1)) w t) := by
  refine zk_Cr.of (K := zm_68) rfl rfl rfl ?_
  show zk_T zk_mt zk_ex Ls xs zm_68 (0, [(0, .ref 69), (1, .int x), (2, .int y)], []) (zH v w t) _
  refine zk_T.adv 2 (f' := (4, [(0, .ref 69), (1, .int x), (2, .int y)], [.int (v 68 13)])) (h' := zH v w t) rfl ?_
  rw [show (v 68 13) = 0 from hf]
  refine zk_T.br (f1 := (8, [(0, .ref 69), (1, .int x), (2, .int y)], [])) (f2 := (7, [(0, .ref 69), (1, .int x), (2, .int y)], [])) rfl (fun c1 => ?_) (fun c1 => absurd (by decide) (of_decide_eq_false c1))
  refine zk_T.adv 2 (f' := (10, [(0, .ref 69), (1, .int x), (2, .int y)], [.int 1, .ref 69])) (h' := zH v w t) rfl ?_
  refine zk_T.ob (f' := (13, [(0, .ref 69), (1, .int x), (2, .int y)], [])) (h' := zH (zb v 68 (upd (v 68) 13 1)) w t) rfl rfl ?_
  refine zk_T.adv 6 (f' := (23, [(0, .ref 69), (1, .int x), (2, .int y)], [])) (h' := zH (zb v 68 (upd (upd (upd (v 68) 9 x) 10 y) 13 1)) w t) rfl ?_
  exact zk_T.rt rfl rfl (by rfl)
/-- BasketKeepModel.see -/
theorem zs_msee_t (k Z : Nat) (hZ : v 68 3 = nI Z) (hk : Z ≤ k) (hk2 : k < 2 ^ 31) : zk_Cr zk_mt zk_ex Ls xs 60 [.ref 69, .int (nI k)] (zH v w t) (some (.int (-1)), zH v w t) := by
  refine zk_Cr.of (K := zm_60) rfl rfl rfl ?_
  show zk_T zk_mt zk_ex Ls xs zm_60 (0, [(0, .ref 69), (1, .int (nI k))], []) (zH v w t) _
  refine zk_T.adv 3 (f' := (5, [(0, .ref 69), (1, .int (nI k))], [.int (v 68 3), .int (nI k)])) (h' := zH v w t) rfl ?_
  refine zk_T.br (f1 := (17, [(0, .ref 69), (1, .int (nI k))], [])) (f2 := (8, [(0, .ref 69), (1, .int (nI k))], [])) rfl (fun c1 => ?_) (fun c1 => absurd (by rw [hZ]; exact nI_le hk hk2) (of_decide_eq_false c1))
  refine zk_T.adv 1 (f' := (18, [(0, .ref 69), (1, .int (nI k))], [.int (-1)])) (h' := zH v w t) rfl ?_
  exact zk_T.rt rfl rfl (by rfl)
/-- BasketKeepModel.see -/
theorem zs_msee_f (k Z : Nat) (hZ : v 68 3 = nI Z) (hZ9 : Z ≤ 900) (hk : k < Z) : zk_Cr zk_mt zk_ex Ls xs 60 [.ref 69, .int (nI k)] (zH v w t) (some (.int (v 69 k)), zH v w t) := by
  refine zk_Cr.of (K := zm_60) rfl rfl rfl ?_
  show zk_T zk_mt zk_ex Ls xs zm_60 (0, [(0, .ref 69), (1, .int (nI k))], []) (zH v w t) _
  refine zk_T.adv 3 (f' := (5, [(0, .ref 69), (1, .int (nI k))], [.int (v 68 3), .int (nI k)])) (h' := zH v w t) rfl ?_
  refine zk_T.br (f1 := (17, [(0, .ref 69), (1, .int (nI k))], [])) (f2 := (8, [(0, .ref 69), (1, .int (nI k))], [])) rfl (fun c1 => absurd (of_decide_eq_true c1) (by rw [hZ]; exact nI_ge hk (by omega))) (fun c1 => ?_)
  refine zk_T.adv 3 (f' := (13, [(0, .ref 69), (1, .int (nI k))], [.int (nI k), .ref 70])) (h' := zH v w t) rfl ?_
  refine zk_T.ob (f' := (14, [(0, .ref 69), (1, .int (nI k))], [.int (v 69 (nI k).toNatClampNeg)])) (h' := zH v w t) rfl (by first | exact zk_inN (by omega) (by decide) | decide) ?_
  rw [nI_clamp (show k < 2 ^ 31 by omega)]
  refine zk_T.adv 1 (f' := (18, [(0, .ref 69), (1, .int (nI k))], [.int (v 69 k)])) (h' := zH v w t) rfl ?_
  exact zk_T.rt rfl rfl (by rfl)
end Z58
