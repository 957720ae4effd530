section ZTRY
variable {ex : Nat → List Value → zk_H → Option (Option Value × zk_H)} {Ls : Nat} {xs : Nat → Int32} {v : Nat → Nat → Int32} {w : Nat → Nat → Int64} {t : zk_H}
/-- hasBit -/
theorem zz_hasBit (a k : Int32) : zk_Cr zk_mt ex Ls xs 49 [.int a, .int k] (zH v w t) (some (.int (if (a >>> (k &&& 31)) &&& 1 = 1 then 1 else 0)), zH v w t) := by
  refine zk_Cr.of (K := zm_49) rfl rfl rfl ?_
  refine zk_T.adv 6 (f' := (6, [(0, .int a), (1, .int k)], [.int 1, .int (a >>> (k &&& 31) &&& 1)])) (h' := zH v w t) rfl ?_
  refine zk_T.br rfl (fun hc => ?_) (fun hc => ?_)
  · have hc := of_decide_eq_true hc
    refine zk_T.adv 2 (f' := (14, [(0, .int a), (1, .int k)], [.int 1])) (h' := zH v w t) rfl ?_
    refine zk_T.rt rfl rfl ?_
    rw [if_pos hc]
  · have hc := of_decide_eq_false hc
    refine zk_T.adv 1 (f' := (14, [(0, .int a), (1, .int k)], [.int 0])) (h' := zH v w t) rfl ?_
    refine zk_T.rt rfl rfl ?_
    rw [if_neg hc]
end ZTRY
