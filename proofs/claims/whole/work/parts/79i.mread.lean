/-! contracts: the reference: its reader, the smallest -/
section Z58
variable {Ls : Nat} {xs : Nat → Int32} {v : Nat → Nat → Int32} {w : Nat → Nat → Int64} {t : zk_H}
def zr_misSmall (c : Int32) : Int32 := if c < 97 then 0 else (if 122 < c then 0 else 1)
/-- BasketKeepModel.isSmall -/
theorem zs_misSmall (c : Int32) : zk_Cr zk_mt zk_ex Ls xs 53 [.int c] (zH v w t) (some (.int (zr_misSmall c)), zH v w t) := by
  refine zk_Cr.of (K := zm_53) rfl rfl rfl ?_
  show zk_T zk_mt zk_ex Ls xs zm_53 (0, [(0, .int c)], []) (zH v w t) _
  refine zk_T.adv 2 (f' := (3, [(0, .int c)], [.int 97, .int c])) (h' := zH v w t) rfl ?_
  refine zk_T.br (f1 := (16, [(0, .int c)], [])) (f2 := (6, [(0, .int c)], [])) rfl (fun c1 => ?_) (fun c1 => ?_)
  · have c1 : c < 97 := of_decide_eq_true c1
    refine zk_T.adv 1 (f' := (17, [(0, .int c)], [.int 0])) (h' := zH v w t) rfl ?_
    exact zk_T.rt rfl rfl (by simp only [zr_misSmall, if_pos c1])
  · have c1 : ¬ (c < 97) := of_decide_eq_false c1
    refine zk_T.adv 2 (f' := (9, [(0, .int c)], [.int 122, .int c])) (h' := zH v w t) rfl ?_
    refine zk_T.br (f1 := (16, [(0, .int c)], [])) (f2 := (12, [(0, .int c)], [])) rfl (fun c2 => ?_) (fun c2 => ?_)
    · have c2 : 122 < c := of_decide_eq_true c2
      refine zk_T.adv 1 (f' := (17, [(0, .int c)], [.int 0])) (h' := zH v w t) rfl ?_
      exact zk_T.rt rfl rfl (by simp only [zr_misSmall, if_neg c1, if_pos c2])
    · have c2 : ¬ (122 < c) := of_decide_eq_false c2
      refine zk_T.adv 2 (f' := (17, [(0, .int c)], [.int 1])) (h' := zH v w t) rfl ?_
      exact zk_T.rt rfl rfl (by simp only [zr_misSmall, if_neg c1, if_neg c2])
def zr_misDigit (c : Int32) : Int32 := if c < 48 then 0 else (if 57 < c then 0 else 1)
/-- BasketKeepModel.isDigit -/
theorem zs_misDigit (c : Int32) : zk_Cr zk_mt zk_ex Ls xs 51 [.int c] (zH v w t) (some (.int (zr_misDigit c)), zH v w t) := by
  refine zk_Cr.of (K := zm_51) rfl rfl rfl ?_
  show zk_T zk_mt zk_ex Ls xs zm_51 (0, [(0, .int c)], []) (zH v w t) _
  refine zk_T.adv 2 (f' := (3, [(0, .int c)], [.int 48, .int c])) (h' := zH v w t) rfl ?_
  refine zk_T.br (f1 := (16, [(0, .int c)], [])) (f2 := (6, [(0, .int c)], [])) rfl (fun c1 => ?_) (fun c1 => ?_)
  · have c1 : c < 48 := of_decide_eq_true c1
    refine zk_T.adv 1 (f' := (17, [(0, .int c)], [.int 0])) (h' := zH v w t) rfl ?_
    exact zk_T.rt rfl rfl (by simp only [zr_misDigit, if_pos c1])
  · have c1 : ¬ (c < 48) := of_decide_eq_false c1
    refine zk_T.adv 2 (f' := (9, [(0, .int c)], [.int 57, .int c])) (h' := zH v w t) rfl ?_
    refine zk_T.br (f1 := (16, [(0, .int c)], [])) (f2 := (12, [(0, .int c)], [])) rfl (fun c2 => ?_) (fun c2 => ?_)
    · have c2 : 57 < c := of_decide_eq_true c2
      refine zk_T.adv 1 (f' := (17, [(0, .int c)], [.int 0])) (h' := zH v w t) rfl ?_
      exact zk_T.rt rfl rfl (by simp only [zr_misDigit, if_neg c1, if_pos c2])
    · have c2 : ¬ (57 < c) := of_decide_eq_false c2
      refine zk_T.adv 2 (f' := (17, [(0, .int c)], [.int 1])) (h' := zH v w t) rfl ?_
      exact zk_T.rt rfl rfl (by simp only [zr_misDigit, if_neg c1, if_neg c2])
end Z58
