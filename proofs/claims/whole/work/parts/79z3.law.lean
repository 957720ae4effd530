/-! the law: round by round -/
theorem zl_cmp0 {Ls i : Nat} (hL : Ls ≤ 3072) (hi : i ≤ 3072) (h : i + 6 ≤ Ls) : ¬ ((Int32.ofNat Ls) - 6) < nI i := by
  rw [show (Int32.ofNat Ls) - 6 = nI (Ls - 6) from nI_sub2 (a := Ls) (b := 6) (by omega)]
  exact nI_nlt (by omega) (by omega)
theorem zl_cmp1 {Ls i : Nat} (hL : Ls ≤ 3072) (hi : i ≤ 3072) (h : Ls < i + 6) : ((Int32.ofNat Ls) - 6) < nI i := by
  by_cases h6 : 6 ≤ Ls
  · rw [show (Int32.ofNat Ls) - 6 = nI (Ls - 6) from nI_sub2 (a := Ls) (b := 6) h6]
    exact nI_lt (by omega) (by omega)
  · refine Int32.lt_of_lt_of_le ?_ (nI_pos' (n := i) (by omega))
    rcases (show Ls = 0 ∨ Ls = 1 ∨ Ls = 2 ∨ Ls = 3 ∨ Ls = 4 ∨ Ls = 5 by omega) with rfl | rfl | rfl | rfl | rfl | rfl <;> decide
section Z82
variable {Ls : Nat} {xs : Nat → Int32} {v : Nat → Nat → Int32} {w : Nat → Nat → Int64} {t : zk_H}
theorem zlc_0 {Q : Option Value × zk_H → Prop} {i : Nat} (hL : Ls ≤ 3072) (hi : i + 6 ≤ Ls) (h : zJ v w) (hc : xs i &&& 63 = nI 0) (hQ : ∀ v2 w2 t2, t2.length ≤ t.length + 1 → zk_sl t2 ≤ zk_sl t + 6 → zJ v2 w2 → zx zk_mt zk_ex Ls xs zm_311 (23, [(0, .retAddr 0), (1, .ref 0), (2, .ref 69), (3, .ref 86), (4, .int (nI (i + 6)))], []) (zH v2 w2 t2) Q) : zx zk_mt zk_ex Ls xs zm_311 (23, [(0, .retAddr 0), (1, .ref 0), (2, .ref 69), (3, .ref 86), (4, .int (nI i))], []) (zH v w t) Q := by
  refine zx.adv 5 (f' := (30, [(0, .retAddr 0), (1, .ref 0), (2, .ref 69), (3, .ref 86), (4, .int (nI i))], [.int ((Int32.ofNat Ls) - 6), .int (nI i)])) (h' := zH v w t) rfl ?_
  refine zx.br (f1 := (1933, [(0, .retAddr 0), (1, .ref 0), (2, .ref 69), (3, .ref 86), (4, .int (nI i))], [])) (f2 := (33, [(0, .retAddr 0), (1, .ref 0), (2, .ref 69), (3, .ref 86), (4, .int (nI i))], [])) rfl (fun c1 => absurd (of_decide_eq_true c1) (zl_cmp0 hL (by omega) hi)) (fun c1 => ?_)
  refine zx.adv 2 (f' := (36, [(0, .retAddr 0), (1, .ref 0), (2, .ref 69), (3, .ref 86), (4, .int (nI i))], [.int (nI i), .retAddr 0])) (h' := zH v w t) rfl ?_
  refine zx.ob (f' := (37, [(0, .retAddr 0), (1, .ref 0), (2, .ref 69), (3, .ref 86), (4, .int (nI i))], [.int (xs (nI i).toNatClampNeg)])) (h' := zH v w t) rfl (zk_inN (show i < Ls by omega) (by omega)) ?_
  rw [nI_clamp (show i < 2 ^ 31 by omega)]
  refine zx.adv 2 (f' := (40, [(0, .retAddr 0), (1, .ref 0), (2, .ref 69), (3, .ref 86), (4, .int (nI i))], [.int ((xs i) &&& 63)])) (h' := zH v w t) rfl ?_
  rw [show (xs i) &&& 63 = 0 from hc]
  refine zx.adv 6 (f' := (286, [(0, .retAddr 0), (1, .ref 0), (2, .ref 69), (3, .ref 86), (4, .int (nI i))], [.int ((nI i) + 1), .retAddr 0, .ref 0])) (h' := zH v w t) rfl ?_
  rw [show (nI i) + 1 = nI (i + 1) from nI_add i 1]
  refine zx.ob (f' := (287, [(0, .retAddr 0), (1, .ref 0), (2, .ref 69), (3, .ref 86), (4, .int (nI i))], [.int (xs (nI (i + 1)).toNatClampNeg), .ref 0])) (h' := zH v w t) rfl (zk_inN (show (i + 1) < Ls by omega) (by omega)) ?_
  rw [nI_clamp (show (i + 1) < 2 ^ 31 by omega)]
  refine zx.adv 4 (f' := (292, [(0, .retAddr 0), (1, .ref 0), (2, .ref 69), (3, .ref 86), (4, .int (nI i))], [.int ((nI i) + 2), .retAddr 0, .int (xs (i + 1)), .ref 0])) (h' := zH v w t) rfl ?_
  rw [show (nI i) + 2 = nI (i + 2) from nI_add i 2]
  refine zx.ob (f' := (293, [(0, .retAddr 0), (1, .ref 0), (2, .ref 69), (3, .ref 86), (4, .int (nI i))], [.int (xs (nI (i + 2)).toNatClampNeg), .int (xs (i + 1)), .ref 0])) (h' := zH v w t) rfl (zk_inN (show (i + 2) < Ls by omega) (by omega)) ?_
  rw [nI_clamp (show (i + 2) < 2 ^ 31 by omega)]
  refine zx.adv 4 (f' := (298, [(0, .retAddr 0), (1, .ref 0), (2, .ref 69), (3, .ref 86), (4, .int (nI i))], [.int ((nI i) + 3), .retAddr 0, .int (xs (i + 2)), .int (xs (i + 1)), .ref 0])) (h' := zH v w t) rfl ?_
  rw [show (nI i) + 3 = nI (i + 3) from nI_add i 3]
  refine zx.ob (f' := (299, [(0, .retAddr 0), (1, .ref 0), (2, .ref 69), (3, .ref 86), (4, .int (nI i))], [.int (xs (nI (i + 3)).toNatClampNeg), .int (xs (i + 2)), .int (xs (i + 1)), .ref 0])) (h' := zH v w t) rfl (zk_inN (show (i + 3) < Ls by omega) (by omega)) ?_
  rw [nI_clamp (show (i + 3) < 2 ^ 31 by omega)]
  refine zx.adv 4 (f' := (304, [(0, .retAddr 0), (1, .ref 0), (2, .ref 69), (3, .ref 86), (4, .int (nI i))], [.int ((nI i) + 4), .retAddr 0, .int (xs (i + 3)), .int (xs (i + 2)), .int (xs (i + 1)), .ref 0])) (h' := zH v w t) rfl ?_
  rw [show (nI i) + 4 = nI (i + 4) from nI_add i 4]
  refine zx.ob (f' := (305, [(0, .retAddr 0), (1, .ref 0), (2, .ref 69), (3, .ref 86), (4, .int (nI i))], [.int (xs (nI (i + 4)).toNatClampNeg), .int (xs (i + 3)), .int (xs (i + 2)), .int (xs (i + 1)), .ref 0])) (h' := zH v w t) rfl (zk_inN (show (i + 4) < Ls by omega) (by omega)) ?_
  rw [nI_clamp (show (i + 4) < 2 ^ 31 by omega)]
  refine zx.adv 4 (f' := (310, [(0, .retAddr 0), (1, .ref 0), (2, .ref 69), (3, .ref 86), (4, .int (nI i))], [.int ((nI i) + 5), .retAddr 0, .int (xs (i + 4)), .int (xs (i + 3)), .int (xs (i + 2)), .int (xs (i + 1)), .ref 0])) (h' := zH v w t) rfl ?_
  rw [show (nI i) + 5 = nI (i + 5) from nI_add i 5]
  refine zx.ob (f' := (311, [(0, .retAddr 0), (1, .ref 0), (2, .ref 69), (3, .ref 86), (4, .int (nI i))], [.int (xs (nI (i + 5)).toNatClampNeg), .int (xs (i + 4)), .int (xs (i + 3)), .int (xs (i + 2)), .int (xs (i + 1)), .ref 0])) (h' := zH v w t) rfl (zk_inN (show (i + 5) < Ls by omega) (by omega)) ?_
  rw [nI_clamp (show (i + 5) < 2 ^ 31 by omega)]
  skip
  · obtain ⟨a, v1, w1, v2, w2, h1, h2, hj⟩ := (zT_feed (Ls := Ls) (xs := xs) (t := t) h (xs (i + 1)) (xs (i + 2)) (xs (i + 3)) (xs (i + 4)) (xs (i + 5))).i rfl rfl (Or.inl rfl)
    refine zx.cl (v := some (.int a)) (h' := zH v1 w1 t) rfl h1 ?_
    show zx zk_mt zk_ex Ls xs zm_311 (314, [(0, .retAddr 0), (1, .ref 0), (2, .ref 69), (3, .ref 86), (4, .int (nI i))], [.int a]) (zH v1 w1 t) _
    refine zx.adv 5 (f' := (320, [(0, .retAddr 0), (1, .ref 0), (2, .ref 69), (3, .ref 86), (4, .int (nI i))], [.int ((nI i) + 1), .retAddr 0, .ref 69, .int a])) (h' := zH v1 w1 t) rfl ?_
    rw [show (nI i) + 1 = nI (i + 1) from nI_add i 1]
    refine zx.ob (f' := (321, [(0, .retAddr 0), (1, .ref 0), (2, .ref 69), (3, .ref 86), (4, .int (nI i))], [.int (xs (nI (i + 1)).toNatClampNeg), .ref 69, .int a])) (h' := zH v1 w1 t) rfl (zk_inN (show (i + 1) < Ls by omega) (by omega)) ?_
    rw [nI_clamp (show (i + 1) < 2 ^ 31 by omega)]
    refine zx.adv 4 (f' := (326, [(0, .retAddr 0), (1, .ref 0), (2, .ref 69), (3, .ref 86), (4, .int (nI i))], [.int ((nI i) + 2), .retAddr 0, .int (xs (i + 1)), .ref 69, .int a])) (h' := zH v1 w1 t) rfl ?_
    rw [show (nI i) + 2 = nI (i + 2) from nI_add i 2]
    refine zx.ob (f' := (327, [(0, .retAddr 0), (1, .ref 0), (2, .ref 69), (3, .ref 86), (4, .int (nI i))], [.int (xs (nI (i + 2)).toNatClampNeg), .int (xs (i + 1)), .ref 69, .int a])) (h' := zH v1 w1 t) rfl (zk_inN (show (i + 2) < Ls by omega) (by omega)) ?_
    rw [nI_clamp (show (i + 2) < 2 ^ 31 by omega)]
    refine zx.adv 4 (f' := (332, [(0, .retAddr 0), (1, .ref 0), (2, .ref 69), (3, .ref 86), (4, .int (nI i))], [.int ((nI i) + 3), .retAddr 0, .int (xs (i + 2)), .int (xs (i + 1)), .ref 69, .int a])) (h' := zH v1 w1 t) rfl ?_
    rw [show (nI i) + 3 = nI (i + 3) from nI_add i 3]
    refine zx.ob (f' := (333, [(0, .retAddr 0), (1, .ref 0), (2, .ref 69), (3, .ref 86), (4, .int (nI i))], [.int (xs (nI (i + 3)).toNatClampNeg), .int (xs (i + 2)), .int (xs (i + 1)), .ref 69, .int a])) (h' := zH v1 w1 t) rfl (zk_inN (show (i + 3) < Ls by omega) (by omega)) ?_
    rw [nI_clamp (show (i + 3) < 2 ^ 31 by omega)]
    refine zx.adv 4 (f' := (338, [(0, .retAddr 0), (1, .ref 0), (2, .ref 69), (3, .ref 86), (4, .int (nI i))], [.int ((nI i) + 4), .retAddr 0, .int (xs (i + 3)), .int (xs (i + 2)), .int (xs (i + 1)), .ref 69, .int a])) (h' := zH v1 w1 t) rfl ?_
    rw [show (nI i) + 4 = nI (i + 4) from nI_add i 4]
    refine zx.ob (f' := (339, [(0, .retAddr 0), (1, .ref 0), (2, .ref 69), (3, .ref 86), (4, .int (nI i))], [.int (xs (nI (i + 4)).toNatClampNeg), .int (xs (i + 3)), .int (xs (i + 2)), .int (xs (i + 1)), .ref 69, .int a])) (h' := zH v1 w1 t) rfl (zk_inN (show (i + 4) < Ls by omega) (by omega)) ?_
    rw [nI_clamp (show (i + 4) < 2 ^ 31 by omega)]
    refine zx.adv 4 (f' := (344, [(0, .retAddr 0), (1, .ref 0), (2, .ref 69), (3, .ref 86), (4, .int (nI i))], [.int ((nI i) + 5), .retAddr 0, .int (xs (i + 4)), .int (xs (i + 3)), .int (xs (i + 2)), .int (xs (i + 1)), .ref 69, .int a])) (h' := zH v1 w1 t) rfl ?_
    rw [show (nI i) + 5 = nI (i + 5) from nI_add i 5]
    refine zx.ob (f' := (345, [(0, .retAddr 0), (1, .ref 0), (2, .ref 69), (3, .ref 86), (4, .int (nI i))], [.int (xs (nI (i + 5)).toNatClampNeg), .int (xs (i + 4)), .int (xs (i + 3)), .int (xs (i + 2)), .int (xs (i + 1)), .ref 69, .int a])) (h' := zH v1 w1 t) rfl (zk_inN (show (i + 5) < Ls by omega) (by omega)) ?_
    rw [nI_clamp (show (i + 5) < 2 ^ 31 by omega)]
    refine zx.cl (v := some (.int a)) (h' := zH v2 w2 t) rfl h2 ?_
    show zx zk_mt zk_ex Ls xs zm_311 (348, [(0, .retAddr 0), (1, .ref 0), (2, .ref 69), (3, .ref 86), (4, .int (nI i))], [.int a, .int a]) (zH v2 w2 t) _
    refine zx.br (f1 := (1927, [(0, .retAddr 0), (1, .ref 0), (2, .ref 69), (3, .ref 86), (4, .int (nI i))], [])) (f2 := (351, [(0, .retAddr 0), (1, .ref 0), (2, .ref 69), (3, .ref 86), (4, .int (nI i))], [])) rfl (fun c2 => ?_) (fun c2 => absurd rfl (of_decide_eq_false c2))
    refine zx.adv 1 (f' := (1930, [(0, .retAddr 0), (1, .ref 0), (2, .ref 69), (3, .ref 86), (4, .int ((nI i) + 6))], [])) (h' := zH v2 w2 t) rfl ?_
    rw [show (nI i) + 6 = nI (i + 6) from nI_add i 6]
    refine zx.adv 1 (f' := (23, [(0, .retAddr 0), (1, .ref 0), (2, .ref 69), (3, .ref 86), (4, .int (nI (i + 6)))], [])) (h' := zH v2 w2 t) rfl ?_
    exact hQ v2 w2 t (by omega) (by omega) hj
theorem zlc_1 {Q : Option Value × zk_H → Prop} {i : Nat} (hL : Ls ≤ 3072) (hi : i + 6 ≤ Ls) (h : zJ v w) (hc : xs i &&& 63 = nI 1) (hQ : ∀ v2 w2 t2, t2.length ≤ t.length + 1 → zk_sl t2 ≤ zk_sl t + 6 → zJ v2 w2 → zx zk_mt zk_ex Ls xs zm_311 (23, [(0, .retAddr 0), (1, .ref 0), (2, .ref 69), (3, .ref 86), (4, .int (nI (i + 6)))], []) (zH v2 w2 t2) Q) : zx zk_mt zk_ex Ls xs zm_311 (23, [(0, .retAddr 0), (1, .ref 0), (2, .ref 69), (3, .ref 86), (4, .int (nI i))], []) (zH v w t) Q := by
  refine zx.adv 5 (f' := (30, [(0, .retAddr 0), (1, .ref 0), (2, .ref 69), (3, .ref 86), (4, .int (nI i))], [.int ((Int32.ofNat Ls) - 6), .int (nI i)])) (h' := zH v w t) rfl ?_
  refine zx.br (f1 := (1933, [(0, .retAddr 0), (1, .ref 0), (2, .ref 69), (3, .ref 86), (4, .int (nI i))], [])) (f2 := (33, [(0, .retAddr 0), (1, .ref 0), (2, .ref 69), (3, .ref 86), (4, .int (nI i))], [])) rfl (fun c1 => absurd (of_decide_eq_true c1) (zl_cmp0 hL (by omega) hi)) (fun c1 => ?_)
  refine zx.adv 2 (f' := (36, [(0, .retAddr 0), (1, .ref 0), (2, .ref 69), (3, .ref 86), (4, .int (nI i))], [.int (nI i), .retAddr 0])) (h' := zH v w t) rfl ?_
  refine zx.ob (f' := (37, [(0, .retAddr 0), (1, .ref 0), (2, .ref 69), (3, .ref 86), (4, .int (nI i))], [.int (xs (nI i).toNatClampNeg)])) (h' := zH v w t) rfl (zk_inN (show i < Ls by omega) (by omega)) ?_
  rw [nI_clamp (show i < 2 ^ 31 by omega)]
  refine zx.adv 2 (f' := (40, [(0, .retAddr 0), (1, .ref 0), (2, .ref 69), (3, .ref 86), (4, .int (nI i))], [.int ((xs i) &&& 63)])) (h' := zH v w t) rfl ?_
  rw [show (xs i) &&& 63 = 1 from hc]
  refine zx.adv 6 (f' := (359, [(0, .retAddr 0), (1, .ref 0), (2, .ref 69), (3, .ref 86), (4, .int (nI i))], [.int ((nI i) + 1), .retAddr 0, .ref 0])) (h' := zH v w t) rfl ?_
  rw [show (nI i) + 1 = nI (i + 1) from nI_add i 1]
  refine zx.ob (f' := (360, [(0, .retAddr 0), (1, .ref 0), (2, .ref 69), (3, .ref 86), (4, .int (nI i))], [.int (xs (nI (i + 1)).toNatClampNeg), .ref 0])) (h' := zH v w t) rfl (zk_inN (show (i + 1) < Ls by omega) (by omega)) ?_
  rw [nI_clamp (show (i + 1) < 2 ^ 31 by omega)]
  skip
  · obtain ⟨a, v1, w1, v2, w2, h1, h2, hj⟩ := (zT_level (Ls := Ls) (xs := xs) (t := t) h (xs (i + 1))).i rfl rfl (Or.inl rfl)
    refine zx.cl (v := some (.int a)) (h' := zH v1 w1 t) rfl h1 ?_
    show zx zk_mt zk_ex Ls xs zm_311 (363, [(0, .retAddr 0), (1, .ref 0), (2, .ref 69), (3, .ref 86), (4, .int (nI i))], [.int a]) (zH v1 w1 t) _
    refine zx.adv 5 (f' := (369, [(0, .retAddr 0), (1, .ref 0), (2, .ref 69), (3, .ref 86), (4, .int (nI i))], [.int ((nI i) + 1), .retAddr 0, .ref 69, .int a])) (h' := zH v1 w1 t) rfl ?_
    rw [show (nI i) + 1 = nI (i + 1) from nI_add i 1]
    refine zx.ob (f' := (370, [(0, .retAddr 0), (1, .ref 0), (2, .ref 69), (3, .ref 86), (4, .int (nI i))], [.int (xs (nI (i + 1)).toNatClampNeg), .ref 69, .int a])) (h' := zH v1 w1 t) rfl (zk_inN (show (i + 1) < Ls by omega) (by omega)) ?_
    rw [nI_clamp (show (i + 1) < 2 ^ 31 by omega)]
    refine zx.cl (v := some (.int a)) (h' := zH v2 w2 t) rfl h2 ?_
    show zx zk_mt zk_ex Ls xs zm_311 (373, [(0, .retAddr 0), (1, .ref 0), (2, .ref 69), (3, .ref 86), (4, .int (nI i))], [.int a, .int a]) (zH v2 w2 t) _
    refine zx.br (f1 := (1927, [(0, .retAddr 0), (1, .ref 0), (2, .ref 69), (3, .ref 86), (4, .int (nI i))], [])) (f2 := (376, [(0, .retAddr 0), (1, .ref 0), (2, .ref 69), (3, .ref 86), (4, .int (nI i))], [])) rfl (fun c2 => ?_) (fun c2 => absurd rfl (of_decide_eq_false c2))
    refine zx.adv 1 (f' := (1930, [(0, .retAddr 0), (1, .ref 0), (2, .ref 69), (3, .ref 86), (4, .int ((nI i) + 6))], [])) (h' := zH v2 w2 t) rfl ?_
    rw [show (nI i) + 6 = nI (i + 6) from nI_add i 6]
    refine zx.adv 1 (f' := (23, [(0, .retAddr 0), (1, .ref 0), (2, .ref 69), (3, .ref 86), (4, .int (nI (i + 6)))], [])) (h' := zH v2 w2 t) rfl ?_
    exact hQ v2 w2 t (by omega) (by omega) hj
theorem zlc_2 {Q : Option Value × zk_H → Prop} {i : Nat} (hL : Ls ≤ 3072) (hi : i + 6 ≤ Ls) (h : zJ v w) (hc : xs i &&& 63 = nI 2) (hQ : ∀ v2 w2 t2, t2.length ≤ t.length + 1 → zk_sl t2 ≤ zk_sl t + 6 → zJ v2 w2 → zx zk_mt zk_ex Ls xs zm_311 (23, [(0, .retAddr 0), (1, .ref 0), (2, .ref 69), (3, .ref 86), (4, .int (nI (i + 6)))], []) (zH v2 w2 t2) Q) : zx zk_mt zk_ex Ls xs zm_311 (23, [(0, .retAddr 0), (1, .ref 0), (2, .ref 69), (3, .ref 86), (4, .int (nI i))], []) (zH v w t) Q := by
  refine zx.adv 5 (f' := (30, [(0, .retAddr 0), (1, .ref 0), (2, .ref 69), (3, .ref 86), (4, .int (nI i))], [.int ((Int32.ofNat Ls) - 6), .int (nI i)])) (h' := zH v w t) rfl ?_
  refine zx.br (f1 := (1933, [(0, .retAddr 0), (1, .ref 0), (2, .ref 69), (3, .ref 86), (4, .int (nI i))], [])) (f2 := (33, [(0, .retAddr 0), (1, .ref 0), (2, .ref 69), (3, .ref 86), (4, .int (nI i))], [])) rfl (fun c1 => absurd (of_decide_eq_true c1) (zl_cmp0 hL (by omega) hi)) (fun c1 => ?_)
  refine zx.adv 2 (f' := (36, [(0, .retAddr 0), (1, .ref 0), (2, .ref 69), (3, .ref 86), (4, .int (nI i))], [.int (nI i), .retAddr 0])) (h' := zH v w t) rfl ?_
  refine zx.ob (f' := (37, [(0, .retAddr 0), (1, .ref 0), (2, .ref 69), (3, .ref 86), (4, .int (nI i))], [.int (xs (nI i).toNatClampNeg)])) (h' := zH v w t) rfl (zk_inN (show i < Ls by omega) (by omega)) ?_
  rw [nI_clamp (show i < 2 ^ 31 by omega)]
  refine zx.adv 2 (f' := (40, [(0, .retAddr 0), (1, .ref 0), (2, .ref 69), (3, .ref 86), (4, .int (nI i))], [.int ((xs i) &&& 63)])) (h' := zH v w t) rfl ?_
  rw [show (xs i) &&& 63 = 2 from hc]
  refine zx.adv 2 (f' := (379, [(0, .retAddr 0), (1, .ref 0), (2, .ref 69), (3, .ref 86), (4, .int (nI i))], [.ref 0])) (h' := zH v w t) rfl ?_
  skip
  · obtain ⟨a, v1, w1, v2, w2, h1, h2, hj⟩ := (zT_fault (Ls := Ls) (xs := xs) (t := t) h ).i rfl rfl (Or.inl rfl)
    refine zx.cl (v := some (.int a)) (h' := zH v1 w1 t) rfl h1 ?_
    show zx zk_mt zk_ex Ls xs zm_311 (382, [(0, .retAddr 0), (1, .ref 0), (2, .ref 69), (3, .ref 86), (4, .int (nI i))], [.int a]) (zH v1 w1 t) _
    refine zx.adv 1 (f' := (383, [(0, .retAddr 0), (1, .ref 0), (2, .ref 69), (3, .ref 86), (4, .int (nI i))], [.ref 69, .int a])) (h' := zH v1 w1 t) rfl ?_
    refine zx.cl (v := some (.int a)) (h' := zH v2 w2 t) rfl h2 ?_
    show zx zk_mt zk_ex Ls xs zm_311 (386, [(0, .retAddr 0), (1, .ref 0), (2, .ref 69), (3, .ref 86), (4, .int (nI i))], [.int a, .int a]) (zH v2 w2 t) _
    refine zx.br (f1 := (1927, [(0, .retAddr 0), (1, .ref 0), (2, .ref 69), (3, .ref 86), (4, .int (nI i))], [])) (f2 := (389, [(0, .retAddr 0), (1, .ref 0), (2, .ref 69), (3, .ref 86), (4, .int (nI i))], [])) rfl (fun c2 => ?_) (fun c2 => absurd rfl (of_decide_eq_false c2))
    refine zx.adv 1 (f' := (1930, [(0, .retAddr 0), (1, .ref 0), (2, .ref 69), (3, .ref 86), (4, .int ((nI i) + 6))], [])) (h' := zH v2 w2 t) rfl ?_
    rw [show (nI i) + 6 = nI (i + 6) from nI_add i 6]
    refine zx.adv 1 (f' := (23, [(0, .retAddr 0), (1, .ref 0), (2, .ref 69), (3, .ref 86), (4, .int (nI (i + 6)))], [])) (h' := zH v2 w2 t) rfl ?_
    exact hQ v2 w2 t (by omega) (by omega) hj
theorem zlc_3 {Q : Option Value × zk_H → Prop} {i : Nat} (hL : Ls ≤ 3072) (hi : i + 6 ≤ Ls) (h : zJ v w) (hc : xs i &&& 63 = nI 3) (hQ : ∀ v2 w2 t2, t2.length ≤ t.length + 1 → zk_sl t2 ≤ zk_sl t + 6 → zJ v2 w2 → zx zk_mt zk_ex Ls xs zm_311 (23, [(0, .retAddr 0), (1, .ref 0), (2, .ref 69), (3, .ref 86), (4, .int (nI (i + 6)))], []) (zH v2 w2 t2) Q) : zx zk_mt zk_ex Ls xs zm_311 (23, [(0, .retAddr 0), (1, .ref 0), (2, .ref 69), (3, .ref 86), (4, .int (nI i))], []) (zH v w t) Q := by
  refine zx.adv 5 (f' := (30, [(0, .retAddr 0), (1, .ref 0), (2, .ref 69), (3, .ref 86), (4, .int (nI i))], [.int ((Int32.ofNat Ls) - 6), .int (nI i)])) (h' := zH v w t) rfl ?_
  refine zx.br (f1 := (1933, [(0, .retAddr 0), (1, .ref 0), (2, .ref 69), (3, .ref 86), (4, .int (nI i))], [])) (f2 := (33, [(0, .retAddr 0), (1, .ref 0), (2, .ref 69), (3, .ref 86), (4, .int (nI i))], [])) rfl (fun c1 => absurd (of_decide_eq_true c1) (zl_cmp0 hL (by omega) hi)) (fun c1 => ?_)
  refine zx.adv 2 (f' := (36, [(0, .retAddr 0), (1, .ref 0), (2, .ref 69), (3, .ref 86), (4, .int (nI i))], [.int (nI i), .retAddr 0])) (h' := zH v w t) rfl ?_
  refine zx.ob (f' := (37, [(0, .retAddr 0), (1, .ref 0), (2, .ref 69), (3, .ref 86), (4, .int (nI i))], [.int (xs (nI i).toNatClampNeg)])) (h' := zH v w t) rfl (zk_inN (show i < Ls by omega) (by omega)) ?_
  rw [nI_clamp (show i < 2 ^ 31 by omega)]
  refine zx.adv 2 (f' := (40, [(0, .retAddr 0), (1, .ref 0), (2, .ref 69), (3, .ref 86), (4, .int (nI i))], [.int ((xs i) &&& 63)])) (h' := zH v w t) rfl ?_
  rw [show (xs i) &&& 63 = 3 from hc]
  refine zx.adv 2 (f' := (392, [(0, .retAddr 0), (1, .ref 0), (2, .ref 69), (3, .ref 86), (4, .int (nI i))], [.ref 0])) (h' := zH v w t) rfl ?_
  skip
  · obtain ⟨a, v1, w1, v2, w2, h1, h2, hj⟩ := (zT_where (Ls := Ls) (xs := xs) (t := t) h ).i rfl rfl (Or.inl rfl)
    refine zx.cl (v := some (.int a)) (h' := zH v1 w1 t) rfl h1 ?_
    show zx zk_mt zk_ex Ls xs zm_311 (395, [(0, .retAddr 0), (1, .ref 0), (2, .ref 69), (3, .ref 86), (4, .int (nI i))], [.int a]) (zH v1 w1 t) _
    refine zx.adv 1 (f' := (396, [(0, .retAddr 0), (1, .ref 0), (2, .ref 69), (3, .ref 86), (4, .int (nI i))], [.ref 69, .int a])) (h' := zH v1 w1 t) rfl ?_
    refine zx.cl (v := some (.int a)) (h' := zH v2 w2 t) rfl h2 ?_
    show zx zk_mt zk_ex Ls xs zm_311 (399, [(0, .retAddr 0), (1, .ref 0), (2, .ref 69), (3, .ref 86), (4, .int (nI i))], [.int a, .int a]) (zH v2 w2 t) _
    refine zx.br (f1 := (1927, [(0, .retAddr 0), (1, .ref 0), (2, .ref 69), (3, .ref 86), (4, .int (nI i))], [])) (f2 := (402, [(0, .retAddr 0), (1, .ref 0), (2, .ref 69), (3, .ref 86), (4, .int (nI i))], [])) rfl (fun c2 => ?_) (fun c2 => absurd rfl (of_decide_eq_false c2))
    refine zx.adv 1 (f' := (1930, [(0, .retAddr 0), (1, .ref 0), (2, .ref 69), (3, .ref 86), (4, .int ((nI i) + 6))], [])) (h' := zH v2 w2 t) rfl ?_
    rw [show (nI i) + 6 = nI (i + 6) from nI_add i 6]
    refine zx.adv 1 (f' := (23, [(0, .retAddr 0), (1, .ref 0), (2, .ref 69), (3, .ref 86), (4, .int (nI (i + 6)))], [])) (h' := zH v2 w2 t) rfl ?_
    exact hQ v2 w2 t (by omega) (by omega) hj
theorem zlc_4 {Q : Option Value × zk_H → Prop} {i : Nat} (hL : Ls ≤ 3072) (hi : i + 6 ≤ Ls) (h : zJ v w) (hc : xs i &&& 63 = nI 4) (hQ : ∀ v2 w2 t2, t2.length ≤ t.length + 1 → zk_sl t2 ≤ zk_sl t + 6 → zJ v2 w2 → zx zk_mt zk_ex Ls xs zm_311 (23, [(0, .retAddr 0), (1, .ref 0), (2, .ref 69), (3, .ref 86), (4, .int (nI (i + 6)))], []) (zH v2 w2 t2) Q) : zx zk_mt zk_ex Ls xs zm_311 (23, [(0, .retAddr 0), (1, .ref 0), (2, .ref 69), (3, .ref 86), (4, .int (nI i))], []) (zH v w t) Q := by
  refine zx.adv 5 (f' := (30, [(0, .retAddr 0), (1, .ref 0), (2, .ref 69), (3, .ref 86), (4, .int (nI i))], [.int ((Int32.ofNat Ls) - 6), .int (nI i)])) (h' := zH v w t) rfl ?_
  refine zx.br (f1 := (1933, [(0, .retAddr 0), (1, .ref 0), (2, .ref 69), (3, .ref 86), (4, .int (nI i))], [])) (f2 := (33, [(0, .retAddr 0), (1, .ref 0), (2, .ref 69), (3, .ref 86), (4, .int (nI i))], [])) rfl (fun c1 => absurd (of_decide_eq_true c1) (zl_cmp0 hL (by omega) hi)) (fun c1 => ?_)
  refine zx.adv 2 (f' := (36, [(0, .retAddr 0), (1, .ref 0), (2, .ref 69), (3, .ref 86), (4, .int (nI i))], [.int (nI i), .retAddr 0])) (h' := zH v w t) rfl ?_
  refine zx.ob (f' := (37, [(0, .retAddr 0), (1, .ref 0), (2, .ref 69), (3, .ref 86), (4, .int (nI i))], [.int (xs (nI i).toNatClampNeg)])) (h' := zH v w t) rfl (zk_inN (show i < Ls by omega) (by omega)) ?_
  rw [nI_clamp (show i < 2 ^ 31 by omega)]
  refine zx.adv 2 (f' := (40, [(0, .retAddr 0), (1, .ref 0), (2, .ref 69), (3, .ref 86), (4, .int (nI i))], [.int ((xs i) &&& 63)])) (h' := zH v w t) rfl ?_
  rw [show (xs i) &&& 63 = 4 from hc]
  refine zx.adv 6 (f' := (410, [(0, .retAddr 0), (1, .ref 0), (2, .ref 69), (3, .ref 86), (4, .int (nI i))], [.int ((nI i) + 1), .retAddr 0, .ref 0])) (h' := zH v w t) rfl ?_
  rw [show (nI i) + 1 = nI (i + 1) from nI_add i 1]
  refine zx.ob (f' := (411, [(0, .retAddr 0), (1, .ref 0), (2, .ref 69), (3, .ref 86), (4, .int (nI i))], [.int (xs (nI (i + 1)).toNatClampNeg), .ref 0])) (h' := zH v w t) rfl (zk_inN (show (i + 1) < Ls by omega) (by omega)) ?_
  rw [nI_clamp (show (i + 1) < 2 ^ 31 by omega)]
  refine zx.adv 4 (f' := (416, [(0, .retAddr 0), (1, .ref 0), (2, .ref 69), (3, .ref 86), (4, .int (nI i))], [.int ((nI i) + 2), .retAddr 0, .int (xs (i + 1)), .ref 0])) (h' := zH v w t) rfl ?_
  rw [show (nI i) + 2 = nI (i + 2) from nI_add i 2]
  refine zx.ob (f' := (417, [(0, .retAddr 0), (1, .ref 0), (2, .ref 69), (3, .ref 86), (4, .int (nI i))], [.int (xs (nI (i + 2)).toNatClampNeg), .int (xs (i + 1)), .ref 0])) (h' := zH v w t) rfl (zk_inN (show (i + 2) < Ls by omega) (by omega)) ?_
  rw [nI_clamp (show (i + 2) < 2 ^ 31 by omega)]
  skip
  · obtain ⟨a, v1, w1, v2, w2, h1, h2, hj⟩ := (zT_danger (Ls := Ls) (xs := xs) (t := t) h (xs (i + 1)) (xs (i + 2))).i rfl rfl (Or.inl rfl)
    refine zx.cl (v := some (.int a)) (h' := zH v1 w1 t) rfl h1 ?_
    show zx zk_mt zk_ex Ls xs zm_311 (420, [(0, .retAddr 0), (1, .ref 0), (2, .ref 69), (3, .ref 86), (4, .int (nI i))], [.int a]) (zH v1 w1 t) _
    refine zx.adv 5 (f' := (426, [(0, .retAddr 0), (1, .ref 0), (2, .ref 69), (3, .ref 86), (4, .int (nI i))], [.int ((nI i) + 1), .retAddr 0, .ref 69, .int a])) (h' := zH v1 w1 t) rfl ?_
    rw [show (nI i) + 1 = nI (i + 1) from nI_add i 1]
    refine zx.ob (f' := (427, [(0, .retAddr 0), (1, .ref 0), (2, .ref 69), (3, .ref 86), (4, .int (nI i))], [.int (xs (nI (i + 1)).toNatClampNeg), .ref 69, .int a])) (h' := zH v1 w1 t) rfl (zk_inN (show (i + 1) < Ls by omega) (by omega)) ?_
    rw [nI_clamp (show (i + 1) < 2 ^ 31 by omega)]
    refine zx.adv 4 (f' := (432, [(0, .retAddr 0), (1, .ref 0), (2, .ref 69), (3, .ref 86), (4, .int (nI i))], [.int ((nI i) + 2), .retAddr 0, .int (xs (i + 1)), .ref 69, .int a])) (h' := zH v1 w1 t) rfl ?_
    rw [show (nI i) + 2 = nI (i + 2) from nI_add i 2]
    refine zx.ob (f' := (433, [(0, .retAddr 0), (1, .ref 0), (2, .ref 69), (3, .ref 86), (4, .int (nI i))], [.int (xs (nI (i + 2)).toNatClampNeg), .int (xs (i + 1)), .ref 69, .int a])) (h' := zH v1 w1 t) rfl (zk_inN (show (i + 2) < Ls by omega) (by omega)) ?_
    rw [nI_clamp (show (i + 2) < 2 ^ 31 by omega)]
    refine zx.cl (v := some (.int a)) (h' := zH v2 w2 t) rfl h2 ?_
    show zx zk_mt zk_ex Ls xs zm_311 (436, [(0, .retAddr 0), (1, .ref 0), (2, .ref 69), (3, .ref 86), (4, .int (nI i))], [.int a, .int a]) (zH v2 w2 t) _
    refine zx.br (f1 := (1927, [(0, .retAddr 0), (1, .ref 0), (2, .ref 69), (3, .ref 86), (4, .int (nI i))], [])) (f2 := (439, [(0, .retAddr 0), (1, .ref 0), (2, .ref 69), (3, .ref 86), (4, .int (nI i))], [])) rfl (fun c2 => ?_) (fun c2 => absurd rfl (of_decide_eq_false c2))
    refine zx.adv 1 (f' := (1930, [(0, .retAddr 0), (1, .ref 0), (2, .ref 69), (3, .ref 86), (4, .int ((nI i) + 6))], [])) (h' := zH v2 w2 t) rfl ?_
    rw [show (nI i) + 6 = nI (i + 6) from nI_add i 6]
    refine zx.adv 1 (f' := (23, [(0, .retAddr 0), (1, .ref 0), (2, .ref 69), (3, .ref 86), (4, .int (nI (i + 6)))], [])) (h' := zH v2 w2 t) rfl ?_
    exact hQ v2 w2 t (by omega) (by omega) hj
theorem zlc_5 {Q : Option Value × zk_H → Prop} {i : Nat} (hL : Ls ≤ 3072) (hi : i + 6 ≤ Ls) (h : zJ v w) (hc : xs i &&& 63 = nI 5) (hQ : ∀ v2 w2 t2, t2.length ≤ t.length + 1 → zk_sl t2 ≤ zk_sl t + 6 → zJ v2 w2 → zx zk_mt zk_ex Ls xs zm_311 (23, [(0, .retAddr 0), (1, .ref 0), (2, .ref 69), (3, .ref 86), (4, .int (nI (i + 6)))], []) (zH v2 w2 t2) Q) : zx zk_mt zk_ex Ls xs zm_311 (23, [(0, .retAddr 0), (1, .ref 0), (2, .ref 69), (3, .ref 86), (4, .int (nI i))], []) (zH v w t) Q := by
  refine zx.adv 5 (f' := (30, [(0, .retAddr 0), (1, .ref 0), (2, .ref 69), (3, .ref 86), (4, .int (nI i))], [.int ((Int32.ofNat Ls) - 6), .int (nI i)])) (h' := zH v w t) rfl ?_
  refine zx.br (f1 := (1933, [(0, .retAddr 0), (1, .ref 0), (2, .ref 69), (3, .ref 86), (4, .int (nI i))], [])) (f2 := (33, [(0, .retAddr 0), (1, .ref 0), (2, .ref 69), (3, .ref 86), (4, .int (nI i))], [])) rfl (fun c1 => absurd (of_decide_eq_true c1) (zl_cmp0 hL (by omega) hi)) (fun c1 => ?_)
  refine zx.adv 2 (f' := (36, [(0, .retAddr 0), (1, .ref 0), (2, .ref 69), (3, .ref 86), (4, .int (nI i))], [.int (nI i), .retAddr 0])) (h' := zH v w t) rfl ?_
  refine zx.ob (f' := (37, [(0, .retAddr 0), (1, .ref 0), (2, .ref 69), (3, .ref 86), (4, .int (nI i))], [.int (xs (nI i).toNatClampNeg)])) (h' := zH v w t) rfl (zk_inN (show i < Ls by omega) (by omega)) ?_
  rw [nI_clamp (show i < 2 ^ 31 by omega)]
  refine zx.adv 2 (f' := (40, [(0, .retAddr 0), (1, .ref 0), (2, .ref 69), (3, .ref 86), (4, .int (nI i))], [.int ((xs i) &&& 63)])) (h' := zH v w t) rfl ?_
  rw [show (xs i) &&& 63 = 5 from hc]
  refine zx.adv 6 (f' := (447, [(0, .retAddr 0), (1, .ref 0), (2, .ref 69), (3, .ref 86), (4, .int (nI i))], [.int ((nI i) + 1), .retAddr 0, .ref 0])) (h' := zH v w t) rfl ?_
  rw [show (nI i) + 1 = nI (i + 1) from nI_add i 1]
  refine zx.ob (f' := (448, [(0, .retAddr 0), (1, .ref 0), (2, .ref 69), (3, .ref 86), (4, .int (nI i))], [.int (xs (nI (i + 1)).toNatClampNeg), .ref 0])) (h' := zH v w t) rfl (zk_inN (show (i + 1) < Ls by omega) (by omega)) ?_
  rw [nI_clamp (show (i + 1) < 2 ^ 31 by omega)]
  refine zx.adv 4 (f' := (453, [(0, .retAddr 0), (1, .ref 0), (2, .ref 69), (3, .ref 86), (4, .int (nI i))], [.int ((nI i) + 2), .retAddr 0, .int (xs (i + 1)), .ref 0])) (h' := zH v w t) rfl ?_
  rw [show (nI i) + 2 = nI (i + 2) from nI_add i 2]
  refine zx.ob (f' := (454, [(0, .retAddr 0), (1, .ref 0), (2, .ref 69), (3, .ref 86), (4, .int (nI i))], [.int (xs (nI (i + 2)).toNatClampNeg), .int (xs (i + 1)), .ref 0])) (h' := zH v w t) rfl (zk_inN (show (i + 2) < Ls by omega) (by omega)) ?_
  rw [nI_clamp (show (i + 2) < 2 ^ 31 by omega)]
  skip
  · obtain ⟨a, v1, w1, v2, w2, h1, h2, hj⟩ := (zT_maker (Ls := Ls) (xs := xs) (t := t) h (xs (i + 1)) (xs (i + 2))).i rfl rfl (Or.inl rfl)
    refine zx.cl (v := some (.int a)) (h' := zH v1 w1 t) rfl h1 ?_
    show zx zk_mt zk_ex Ls xs zm_311 (457, [(0, .retAddr 0), (1, .ref 0), (2, .ref 69), (3, .ref 86), (4, .int (nI i))], [.int a]) (zH v1 w1 t) _
    refine zx.adv 5 (f' := (463, [(0, .retAddr 0), (1, .ref 0), (2, .ref 69), (3, .ref 86), (4, .int (nI i))], [.int ((nI i) + 1), .retAddr 0, .ref 69, .int a])) (h' := zH v1 w1 t) rfl ?_
    rw [show (nI i) + 1 = nI (i + 1) from nI_add i 1]
    refine zx.ob (f' := (464, [(0, .retAddr 0), (1, .ref 0), (2, .ref 69), (3, .ref 86), (4, .int (nI i))], [.int (xs (nI (i + 1)).toNatClampNeg), .ref 69, .int a])) (h' := zH v1 w1 t) rfl (zk_inN (show (i + 1) < Ls by omega) (by omega)) ?_
    rw [nI_clamp (show (i + 1) < 2 ^ 31 by omega)]
    refine zx.adv 4 (f' := (469, [(0, .retAddr 0), (1, .ref 0), (2, .ref 69), (3, .ref 86), (4, .int (nI i))], [.int ((nI i) + 2), .retAddr 0, .int (xs (i + 1)), .ref 69, .int a])) (h' := zH v1 w1 t) rfl ?_
    rw [show (nI i) + 2 = nI (i + 2) from nI_add i 2]
    refine zx.ob (f' := (470, [(0, .retAddr 0), (1, .ref 0), (2, .ref 69), (3, .ref 86), (4, .int (nI i))], [.int (xs (nI (i + 2)).toNatClampNeg), .int (xs (i + 1)), .ref 69, .int a])) (h' := zH v1 w1 t) rfl (zk_inN (show (i + 2) < Ls by omega) (by omega)) ?_
    rw [nI_clamp (show (i + 2) < 2 ^ 31 by omega)]
    refine zx.cl (v := some (.int a)) (h' := zH v2 w2 t) rfl h2 ?_
    show zx zk_mt zk_ex Ls xs zm_311 (473, [(0, .retAddr 0), (1, .ref 0), (2, .ref 69), (3, .ref 86), (4, .int (nI i))], [.int a, .int a]) (zH v2 w2 t) _
    refine zx.br (f1 := (1927, [(0, .retAddr 0), (1, .ref 0), (2, .ref 69), (3, .ref 86), (4, .int (nI i))], [])) (f2 := (476, [(0, .retAddr 0), (1, .ref 0), (2, .ref 69), (3, .ref 86), (4, .int (nI i))], [])) rfl (fun c2 => ?_) (fun c2 => absurd rfl (of_decide_eq_false c2))
    refine zx.adv 1 (f' := (1930, [(0, .retAddr 0), (1, .ref 0), (2, .ref 69), (3, .ref 86), (4, .int ((nI i) + 6))], [])) (h' := zH v2 w2 t) rfl ?_
    rw [show (nI i) + 6 = nI (i + 6) from nI_add i 6]
    refine zx.adv 1 (f' := (23, [(0, .retAddr 0), (1, .ref 0), (2, .ref 69), (3, .ref 86), (4, .int (nI (i + 6)))], [])) (h' := zH v2 w2 t) rfl ?_
    exact hQ v2 w2 t (by omega) (by omega) hj
theorem zlc_6 {Q : Option Value × zk_H → Prop} {i : Nat} (hL : Ls ≤ 3072) (hi : i + 6 ≤ Ls) (h : zJ v w) (hc : xs i &&& 63 = nI 6) (hQ : ∀ v2 w2 t2, t2.length ≤ t.length + 1 → zk_sl t2 ≤ zk_sl t + 6 → zJ v2 w2 → zx zk_mt zk_ex Ls xs zm_311 (23, [(0, .retAddr 0), (1, .ref 0), (2, .ref 69), (3, .ref 86), (4, .int (nI (i + 6)))], []) (zH v2 w2 t2) Q) : zx zk_mt zk_ex Ls xs zm_311 (23, [(0, .retAddr 0), (1, .ref 0), (2, .ref 69), (3, .ref 86), (4, .int (nI i))], []) (zH v w t) Q := by
  refine zx.adv 5 (f' := (30, [(0, .retAddr 0), (1, .ref 0), (2, .ref 69), (3, .ref 86), (4, .int (nI i))], [.int ((Int32.ofNat Ls) - 6), .int (nI i)])) (h' := zH v w t) rfl ?_
  refine zx.br (f1 := (1933, [(0, .retAddr 0), (1, .ref 0), (2, .ref 69), (3, .ref 86), (4, .int (nI i))], [])) (f2 := (33, [(0, .retAddr 0), (1, .ref 0), (2, .ref 69), (3, .ref 86), (4, .int (nI i))], [])) rfl (fun c1 => absurd (of_decide_eq_true c1) (zl_cmp0 hL (by omega) hi)) (fun c1 => ?_)
  refine zx.adv 2 (f' := (36, [(0, .retAddr 0), (1, .ref 0), (2, .ref 69), (3, .ref 86), (4, .int (nI i))], [.int (nI i), .retAddr 0])) (h' := zH v w t) rfl ?_
  refine zx.ob (f' := (37, [(0, .retAddr 0), (1, .ref 0), (2, .ref 69), (3, .ref 86), (4, .int (nI i))], [.int (xs (nI i).toNatClampNeg)])) (h' := zH v w t) rfl (zk_inN (show i < Ls by omega) (by omega)) ?_
  rw [nI_clamp (show i < 2 ^ 31 by omega)]
  refine zx.adv 2 (f' := (40, [(0, .retAddr 0), (1, .ref 0), (2, .ref 69), (3, .ref 86), (4, .int (nI i))], [.int ((xs i) &&& 63)])) (h' := zH v w t) rfl ?_
  rw [show (xs i) &&& 63 = 6 from hc]
  refine zx.adv 6 (f' := (484, [(0, .retAddr 0), (1, .ref 0), (2, .ref 69), (3, .ref 86), (4, .int (nI i))], [.int ((nI i) + 1), .retAddr 0, .ref 0])) (h' := zH v w t) rfl ?_
  rw [show (nI i) + 1 = nI (i + 1) from nI_add i 1]
  refine zx.ob (f' := (485, [(0, .retAddr 0), (1, .ref 0), (2, .ref 69), (3, .ref 86), (4, .int (nI i))], [.int (xs (nI (i + 1)).toNatClampNeg), .ref 0])) (h' := zH v w t) rfl (zk_inN (show (i + 1) < Ls by omega) (by omega)) ?_
  rw [nI_clamp (show (i + 1) < 2 ^ 31 by omega)]
  refine zx.adv 4 (f' := (490, [(0, .retAddr 0), (1, .ref 0), (2, .ref 69), (3, .ref 86), (4, .int (nI i))], [.int ((nI i) + 2), .retAddr 0, .int (xs (i + 1)), .ref 0])) (h' := zH v w t) rfl ?_
  rw [show (nI i) + 2 = nI (i + 2) from nI_add i 2]
  refine zx.ob (f' := (491, [(0, .retAddr 0), (1, .ref 0), (2, .ref 69), (3, .ref 86), (4, .int (nI i))], [.int (xs (nI (i + 2)).toNatClampNeg), .int (xs (i + 1)), .ref 0])) (h' := zH v w t) rfl (zk_inN (show (i + 2) < Ls by omega) (by omega)) ?_
  rw [nI_clamp (show (i + 2) < 2 ^ 31 by omega)]
  skip
  · obtain ⟨a, v1, w1, v2, w2, h1, h2, hj⟩ := (zT_good (Ls := Ls) (xs := xs) (t := t) h (xs (i + 1)) (xs (i + 2))).i rfl rfl (Or.inl rfl)
    refine zx.cl (v := some (.int a)) (h' := zH v1 w1 t) rfl h1 ?_
    show zx zk_mt zk_ex Ls xs zm_311 (494, [(0, .retAddr 0), (1, .ref 0), (2, .ref 69), (3, .ref 86), (4, .int (nI i))], [.int a]) (zH v1 w1 t) _
    refine zx.adv 5 (f' := (500, [(0, .retAddr 0), (1, .ref 0), (2, .ref 69), (3, .ref 86), (4, .int (nI i))], [.int ((nI i) + 1), .retAddr 0, .ref 69, .int a])) (h' := zH v1 w1 t) rfl ?_
    rw [show (nI i) + 1 = nI (i + 1) from nI_add i 1]
    refine zx.ob (f' := (501, [(0, .retAddr 0), (1, .ref 0), (2, .ref 69), (3, .ref 86), (4, .int (nI i))], [.int (xs (nI (i + 1)).toNatClampNeg), .ref 69, .int a])) (h' := zH v1 w1 t) rfl (zk_inN (show (i + 1) < Ls by omega) (by omega)) ?_
    rw [nI_clamp (show (i + 1) < 2 ^ 31 by omega)]
    refine zx.adv 4 (f' := (506, [(0, .retAddr 0), (1, .ref 0), (2, .ref 69), (3, .ref 86), (4, .int (nI i))], [.int ((nI i) + 2), .retAddr 0, .int (xs (i + 1)), .ref 69, .int a])) (h' := zH v1 w1 t) rfl ?_
    rw [show (nI i) + 2 = nI (i + 2) from nI_add i 2]
    refine zx.ob (f' := (507, [(0, .retAddr 0), (1, .ref 0), (2, .ref 69), (3, .ref 86), (4, .int (nI i))], [.int (xs (nI (i + 2)).toNatClampNeg), .int (xs (i + 1)), .ref 69, .int a])) (h' := zH v1 w1 t) rfl (zk_inN (show (i + 2) < Ls by omega) (by omega)) ?_
    rw [nI_clamp (show (i + 2) < 2 ^ 31 by omega)]
    refine zx.cl (v := some (.int a)) (h' := zH v2 w2 t) rfl h2 ?_
    show zx zk_mt zk_ex Ls xs zm_311 (510, [(0, .retAddr 0), (1, .ref 0), (2, .ref 69), (3, .ref 86), (4, .int (nI i))], [.int a, .int a]) (zH v2 w2 t) _
    refine zx.br (f1 := (1927, [(0, .retAddr 0), (1, .ref 0), (2, .ref 69), (3, .ref 86), (4, .int (nI i))], [])) (f2 := (513, [(0, .retAddr 0), (1, .ref 0), (2, .ref 69), (3, .ref 86), (4, .int (nI i))], [])) rfl (fun c2 => ?_) (fun c2 => absurd rfl (of_decide_eq_false c2))
    refine zx.adv 1 (f' := (1930, [(0, .retAddr 0), (1, .ref 0), (2, .ref 69), (3, .ref 86), (4, .int ((nI i) + 6))], [])) (h' := zH v2 w2 t) rfl ?_
    rw [show (nI i) + 6 = nI (i + 6) from nI_add i 6]
    refine zx.adv 1 (f' := (23, [(0, .retAddr 0), (1, .ref 0), (2, .ref 69), (3, .ref 86), (4, .int (nI (i + 6)))], [])) (h' := zH v2 w2 t) rfl ?_
    exact hQ v2 w2 t (by omega) (by omega) hj
theorem zlc_7 {Q : Option Value × zk_H → Prop} {i : Nat} (hL : Ls ≤ 3072) (hi : i + 6 ≤ Ls) (h : zJ v w) (hc : xs i &&& 63 = nI 7) (hQ : ∀ v2 w2 t2, t2.length ≤ t.length + 1 → zk_sl t2 ≤ zk_sl t + 6 → zJ v2 w2 → zx zk_mt zk_ex Ls xs zm_311 (23, [(0, .retAddr 0), (1, .ref 0), (2, .ref 69), (3, .ref 86), (4, .int (nI (i + 6)))], []) (zH v2 w2 t2) Q) : zx zk_mt zk_ex Ls xs zm_311 (23, [(0, .retAddr 0), (1, .ref 0), (2, .ref 69), (3, .ref 86), (4, .int (nI i))], []) (zH v w t) Q := by
  refine zx.adv 5 (f' := (30, [(0, .retAddr 0), (1, .ref 0), (2, .ref 69), (3, .ref 86), (4, .int (nI i))], [.int ((Int32.ofNat Ls) - 6), .int (nI i)])) (h' := zH v w t) rfl ?_
  refine zx.br (f1 := (1933, [(0, .retAddr 0), (1, .ref 0), (2, .ref 69), (3, .ref 86), (4, .int (nI i))], [])) (f2 := (33, [(0, .retAddr 0), (1, .ref 0), (2, .ref 69), (3, .ref 86), (4, .int (nI i))], [])) rfl (fun c1 => absurd (of_decide_eq_true c1) (zl_cmp0 hL (by omega) hi)) (fun c1 => ?_)
  refine zx.adv 2 (f' := (36, [(0, .retAddr 0), (1, .ref 0), (2, .ref 69), (3, .ref 86), (4, .int (nI i))], [.int (nI i), .retAddr 0])) (h' := zH v w t) rfl ?_
  refine zx.ob (f' := (37, [(0, .retAddr 0), (1, .ref 0), (2, .ref 69), (3, .ref 86), (4, .int (nI i))], [.int (xs (nI i).toNatClampNeg)])) (h' := zH v w t) rfl (zk_inN (show i < Ls by omega) (by omega)) ?_
  rw [nI_clamp (show i < 2 ^ 31 by omega)]
  refine zx.adv 2 (f' := (40, [(0, .retAddr 0), (1, .ref 0), (2, .ref 69), (3, .ref 86), (4, .int (nI i))], [.int ((xs i) &&& 63)])) (h' := zH v w t) rfl ?_
  rw [show (xs i) &&& 63 = 7 from hc]
  refine zx.adv 6 (f' := (521, [(0, .retAddr 0), (1, .ref 0), (2, .ref 69), (3, .ref 86), (4, .int (nI i))], [.int ((nI i) + 1), .retAddr 0, .ref 0])) (h' := zH v w t) rfl ?_
  rw [show (nI i) + 1 = nI (i + 1) from nI_add i 1]
  refine zx.ob (f' := (522, [(0, .retAddr 0), (1, .ref 0), (2, .ref 69), (3, .ref 86), (4, .int (nI i))], [.int (xs (nI (i + 1)).toNatClampNeg), .ref 0])) (h' := zH v w t) rfl (zk_inN (show (i + 1) < Ls by omega) (by omega)) ?_
  rw [nI_clamp (show (i + 1) < 2 ^ 31 by omega)]
  skip
  · obtain ⟨a, v1, w1, v2, w2, h1, h2, hj⟩ := (zT_strikes (Ls := Ls) (xs := xs) (t := t) h (xs (i + 1))).i rfl rfl (Or.inl rfl)
    refine zx.cl (v := some (.int a)) (h' := zH v1 w1 t) rfl h1 ?_
    show zx zk_mt zk_ex Ls xs zm_311 (525, [(0, .retAddr 0), (1, .ref 0), (2, .ref 69), (3, .ref 86), (4, .int (nI i))], [.int a]) (zH v1 w1 t) _
    refine zx.adv 5 (f' := (531, [(0, .retAddr 0), (1, .ref 0), (2, .ref 69), (3, .ref 86), (4, .int (nI i))], [.int ((nI i) + 1), .retAddr 0, .ref 69, .int a])) (h' := zH v1 w1 t) rfl ?_
    rw [show (nI i) + 1 = nI (i + 1) from nI_add i 1]
    refine zx.ob (f' := (532, [(0, .retAddr 0), (1, .ref 0), (2, .ref 69), (3, .ref 86), (4, .int (nI i))], [.int (xs (nI (i + 1)).toNatClampNeg), .ref 69, .int a])) (h' := zH v1 w1 t) rfl (zk_inN (show (i + 1) < Ls by omega) (by omega)) ?_
    rw [nI_clamp (show (i + 1) < 2 ^ 31 by omega)]
    refine zx.cl (v := some (.int a)) (h' := zH v2 w2 t) rfl h2 ?_
    show zx zk_mt zk_ex Ls xs zm_311 (535, [(0, .retAddr 0), (1, .ref 0), (2, .ref 69), (3, .ref 86), (4, .int (nI i))], [.int a, .int a]) (zH v2 w2 t) _
    refine zx.br (f1 := (1927, [(0, .retAddr 0), (1, .ref 0), (2, .ref 69), (3, .ref 86), (4, .int (nI i))], [])) (f2 := (538, [(0, .retAddr 0), (1, .ref 0), (2, .ref 69), (3, .ref 86), (4, .int (nI i))], [])) rfl (fun c2 => ?_) (fun c2 => absurd rfl (of_decide_eq_false c2))
    refine zx.adv 1 (f' := (1930, [(0, .retAddr 0), (1, .ref 0), (2, .ref 69), (3, .ref 86), (4, .int ((nI i) + 6))], [])) (h' := zH v2 w2 t) rfl ?_
    rw [show (nI i) + 6 = nI (i + 6) from nI_add i 6]
    refine zx.adv 1 (f' := (23, [(0, .retAddr 0), (1, .ref 0), (2, .ref 69), (3, .ref 86), (4, .int (nI (i + 6)))], [])) (h' := zH v2 w2 t) rfl ?_
    exact hQ v2 w2 t (by omega) (by omega) hj
theorem zlc_8 {Q : Option Value × zk_H → Prop} {i : Nat} (hL : Ls ≤ 3072) (hi : i + 6 ≤ Ls) (h : zJ v w) (hc : xs i &&& 63 = nI 8) (hQ : ∀ v2 w2 t2, t2.length ≤ t.length + 1 → zk_sl t2 ≤ zk_sl t + 6 → zJ v2 w2 → zx zk_mt zk_ex Ls xs zm_311 (23, [(0, .retAddr 0), (1, .ref 0), (2, .ref 69), (3, .ref 86), (4, .int (nI (i + 6)))], []) (zH v2 w2 t2) Q) : zx zk_mt zk_ex Ls xs zm_311 (23, [(0, .retAddr 0), (1, .ref 0), (2, .ref 69), (3, .ref 86), (4, .int (nI i))], []) (zH v w t) Q := by
  refine zx.adv 5 (f' := (30, [(0, .retAddr 0), (1, .ref 0), (2, .ref 69), (3, .ref 86), (4, .int (nI i))], [.int ((Int32.ofNat Ls) - 6), .int (nI i)])) (h' := zH v w t) rfl ?_
  refine zx.br (f1 := (1933, [(0, .retAddr 0), (1, .ref 0), (2, .ref 69), (3, .ref 86), (4, .int (nI i))], [])) (f2 := (33, [(0, .retAddr 0), (1, .ref 0), (2, .ref 69), (3, .ref 86), (4, .int (nI i))], [])) rfl (fun c1 => absurd (of_decide_eq_true c1) (zl_cmp0 hL (by omega) hi)) (fun c1 => ?_)
  refine zx.adv 2 (f' := (36, [(0, .retAddr 0), (1, .ref 0), (2, .ref 69), (3, .ref 86), (4, .int (nI i))], [.int (nI i), .retAddr 0])) (h' := zH v w t) rfl ?_
  refine zx.ob (f' := (37, [(0, .retAddr 0), (1, .ref 0), (2, .ref 69), (3, .ref 86), (4, .int (nI i))], [.int (xs (nI i).toNatClampNeg)])) (h' := zH v w t) rfl (zk_inN (show i < Ls by omega) (by omega)) ?_
  rw [nI_clamp (show i < 2 ^ 31 by omega)]
  refine zx.adv 2 (f' := (40, [(0, .retAddr 0), (1, .ref 0), (2, .ref 69), (3, .ref 86), (4, .int (nI i))], [.int ((xs i) &&& 63)])) (h' := zH v w t) rfl ?_
  rw [show (xs i) &&& 63 = 8 from hc]
  refine zx.adv 6 (f' := (546, [(0, .retAddr 0), (1, .ref 0), (2, .ref 69), (3, .ref 86), (4, .int (nI i))], [.int ((nI i) + 1), .retAddr 0, .ref 0])) (h' := zH v w t) rfl ?_
  rw [show (nI i) + 1 = nI (i + 1) from nI_add i 1]
  refine zx.ob (f' := (547, [(0, .retAddr 0), (1, .ref 0), (2, .ref 69), (3, .ref 86), (4, .int (nI i))], [.int (xs (nI (i + 1)).toNatClampNeg), .ref 0])) (h' := zH v w t) rfl (zk_inN (show (i + 1) < Ls by omega) (by omega)) ?_
  rw [nI_clamp (show (i + 1) < 2 ^ 31 by omega)]
  refine zx.adv 4 (f' := (552, [(0, .retAddr 0), (1, .ref 0), (2, .ref 69), (3, .ref 86), (4, .int (nI i))], [.int ((nI i) + 2), .retAddr 0, .int (xs (i + 1)), .ref 0])) (h' := zH v w t) rfl ?_
  rw [show (nI i) + 2 = nI (i + 2) from nI_add i 2]
  refine zx.ob (f' := (553, [(0, .retAddr 0), (1, .ref 0), (2, .ref 69), (3, .ref 86), (4, .int (nI i))], [.int (xs (nI (i + 2)).toNatClampNeg), .int (xs (i + 1)), .ref 0])) (h' := zH v w t) rfl (zk_inN (show (i + 2) < Ls by omega) (by omega)) ?_
  rw [nI_clamp (show (i + 2) < 2 ^ 31 by omega)]
  skip
  · obtain ⟨a, v1, w1, v2, w2, h1, h2, hj⟩ := (zT_keepsOut (Ls := Ls) (xs := xs) (t := t) h (xs (i + 1)) (xs (i + 2))).i rfl rfl (Or.inl rfl)
    refine zx.cl (v := some (.int a)) (h' := zH v1 w1 t) rfl h1 ?_
    show zx zk_mt zk_ex Ls xs zm_311 (556, [(0, .retAddr 0), (1, .ref 0), (2, .ref 69), (3, .ref 86), (4, .int (nI i))], [.int a]) (zH v1 w1 t) _
    refine zx.adv 5 (f' := (562, [(0, .retAddr 0), (1, .ref 0), (2, .ref 69), (3, .ref 86), (4, .int (nI i))], [.int ((nI i) + 1), .retAddr 0, .ref 69, .int a])) (h' := zH v1 w1 t) rfl ?_
    rw [show (nI i) + 1 = nI (i + 1) from nI_add i 1]
    refine zx.ob (f' := (563, [(0, .retAddr 0), (1, .ref 0), (2, .ref 69), (3, .ref 86), (4, .int (nI i))], [.int (xs (nI (i + 1)).toNatClampNeg), .ref 69, .int a])) (h' := zH v1 w1 t) rfl (zk_inN (show (i + 1) < Ls by omega) (by omega)) ?_
    rw [nI_clamp (show (i + 1) < 2 ^ 31 by omega)]
    refine zx.adv 4 (f' := (568, [(0, .retAddr 0), (1, .ref 0), (2, .ref 69), (3, .ref 86), (4, .int (nI i))], [.int ((nI i) + 2), .retAddr 0, .int (xs (i + 1)), .ref 69, .int a])) (h' := zH v1 w1 t) rfl ?_
    rw [show (nI i) + 2 = nI (i + 2) from nI_add i 2]
    refine zx.ob (f' := (569, [(0, .retAddr 0), (1, .ref 0), (2, .ref 69), (3, .ref 86), (4, .int (nI i))], [.int (xs (nI (i + 2)).toNatClampNeg), .int (xs (i + 1)), .ref 69, .int a])) (h' := zH v1 w1 t) rfl (zk_inN (show (i + 2) < Ls by omega) (by omega)) ?_
    rw [nI_clamp (show (i + 2) < 2 ^ 31 by omega)]
    refine zx.cl (v := some (.int a)) (h' := zH v2 w2 t) rfl h2 ?_
    show zx zk_mt zk_ex Ls xs zm_311 (572, [(0, .retAddr 0), (1, .ref 0), (2, .ref 69), (3, .ref 86), (4, .int (nI i))], [.int a, .int a]) (zH v2 w2 t) _
    refine zx.br (f1 := (1927, [(0, .retAddr 0), (1, .ref 0), (2, .ref 69), (3, .ref 86), (4, .int (nI i))], [])) (f2 := (575, [(0, .retAddr 0), (1, .ref 0), (2, .ref 69), (3, .ref 86), (4, .int (nI i))], [])) rfl (fun c2 => ?_) (fun c2 => absurd rfl (of_decide_eq_false c2))
    refine zx.adv 1 (f' := (1930, [(0, .retAddr 0), (1, .ref 0), (2, .ref 69), (3, .ref 86), (4, .int ((nI i) + 6))], [])) (h' := zH v2 w2 t) rfl ?_
    rw [show (nI i) + 6 = nI (i + 6) from nI_add i 6]
    refine zx.adv 1 (f' := (23, [(0, .retAddr 0), (1, .ref 0), (2, .ref 69), (3, .ref 86), (4, .int (nI (i + 6)))], [])) (h' := zH v2 w2 t) rfl ?_
    exact hQ v2 w2 t (by omega) (by omega) hj
theorem zlc_9 {Q : Option Value × zk_H → Prop} {i : Nat} (hL : Ls ≤ 3072) (hi : i + 6 ≤ Ls) (h : zJ v w) (hc : xs i &&& 63 = nI 9) (hQ : ∀ v2 w2 t2, t2.length ≤ t.length + 1 → zk_sl t2 ≤ zk_sl t + 6 → zJ v2 w2 → zx zk_mt zk_ex Ls xs zm_311 (23, [(0, .retAddr 0), (1, .ref 0), (2, .ref 69), (3, .ref 86), (4, .int (nI (i + 6)))], []) (zH v2 w2 t2) Q) : zx zk_mt zk_ex Ls xs zm_311 (23, [(0, .retAddr 0), (1, .ref 0), (2, .ref 69), (3, .ref 86), (4, .int (nI i))], []) (zH v w t) Q := by
  refine zx.adv 5 (f' := (30, [(0, .retAddr 0), (1, .ref 0), (2, .ref 69), (3, .ref 86), (4, .int (nI i))], [.int ((Int32.ofNat Ls) - 6), .int (nI i)])) (h' := zH v w t) rfl ?_
  refine zx.br (f1 := (1933, [(0, .retAddr 0), (1, .ref 0), (2, .ref 69), (3, .ref 86), (4, .int (nI i))], [])) (f2 := (33, [(0, .retAddr 0), (1, .ref 0), (2, .ref 69), (3, .ref 86), (4, .int (nI i))], [])) rfl (fun c1 => absurd (of_decide_eq_true c1) (zl_cmp0 hL (by omega) hi)) (fun c1 => ?_)
  refine zx.adv 2 (f' := (36, [(0, .retAddr 0), (1, .ref 0), (2, .ref 69), (3, .ref 86), (4, .int (nI i))], [.int (nI i), .retAddr 0])) (h' := zH v w t) rfl ?_
  refine zx.ob (f' := (37, [(0, .retAddr 0), (1, .ref 0), (2, .ref 69), (3, .ref 86), (4, .int (nI i))], [.int (xs (nI i).toNatClampNeg)])) (h' := zH v w t) rfl (zk_inN (show i < Ls by omega) (by omega)) ?_
  rw [nI_clamp (show i < 2 ^ 31 by omega)]
  refine zx.adv 2 (f' := (40, [(0, .retAddr 0), (1, .ref 0), (2, .ref 69), (3, .ref 86), (4, .int (nI i))], [.int ((xs i) &&& 63)])) (h' := zH v w t) rfl ?_
  rw [show (xs i) &&& 63 = 9 from hc]
  refine zx.adv 2 (f' := (578, [(0, .retAddr 0), (1, .ref 0), (2, .ref 69), (3, .ref 86), (4, .int (nI i))], [.ref 0])) (h' := zH v w t) rfl ?_
  skip
  · obtain ⟨a, v1, w1, v2, w2, h1, h2, hj⟩ := (zT_worth (Ls := Ls) (xs := xs) (t := t) h ).i rfl rfl (Or.inl rfl)
    refine zx.cl (v := some (.int a)) (h' := zH v1 w1 t) rfl h1 ?_
    show zx zk_mt zk_ex Ls xs zm_311 (581, [(0, .retAddr 0), (1, .ref 0), (2, .ref 69), (3, .ref 86), (4, .int (nI i))], [.int a]) (zH v1 w1 t) _
    refine zx.adv 1 (f' := (582, [(0, .retAddr 0), (1, .ref 0), (2, .ref 69), (3, .ref 86), (4, .int (nI i))], [.ref 69, .int a])) (h' := zH v1 w1 t) rfl ?_
    refine zx.cl (v := some (.int a)) (h' := zH v2 w2 t) rfl h2 ?_
    show zx zk_mt zk_ex Ls xs zm_311 (585, [(0, .retAddr 0), (1, .ref 0), (2, .ref 69), (3, .ref 86), (4, .int (nI i))], [.int a, .int a]) (zH v2 w2 t) _
    refine zx.br (f1 := (1927, [(0, .retAddr 0), (1, .ref 0), (2, .ref 69), (3, .ref 86), (4, .int (nI i))], [])) (f2 := (588, [(0, .retAddr 0), (1, .ref 0), (2, .ref 69), (3, .ref 86), (4, .int (nI i))], [])) rfl (fun c2 => ?_) (fun c2 => absurd rfl (of_decide_eq_false c2))
    refine zx.adv 1 (f' := (1930, [(0, .retAddr 0), (1, .ref 0), (2, .ref 69), (3, .ref 86), (4, .int ((nI i) + 6))], [])) (h' := zH v2 w2 t) rfl ?_
    rw [show (nI i) + 6 = nI (i + 6) from nI_add i 6]
    refine zx.adv 1 (f' := (23, [(0, .retAddr 0), (1, .ref 0), (2, .ref 69), (3, .ref 86), (4, .int (nI (i + 6)))], [])) (h' := zH v2 w2 t) rfl ?_
    exact hQ v2 w2 t (by omega) (by omega) hj
theorem zlc_10 {Q : Option Value × zk_H → Prop} {i : Nat} (hL : Ls ≤ 3072) (hi : i + 6 ≤ Ls) (h : zJ v w) (hc : xs i &&& 63 = nI 10) (hQ : ∀ v2 w2 t2, t2.length ≤ t.length + 1 → zk_sl t2 ≤ zk_sl t + 6 → zJ v2 w2 → zx zk_mt zk_ex Ls xs zm_311 (23, [(0, .retAddr 0), (1, .ref 0), (2, .ref 69), (3, .ref 86), (4, .int (nI (i + 6)))], []) (zH v2 w2 t2) Q) : zx zk_mt zk_ex Ls xs zm_311 (23, [(0, .retAddr 0), (1, .ref 0), (2, .ref 69), (3, .ref 86), (4, .int (nI i))], []) (zH v w t) Q := by
  refine zx.adv 5 (f' := (30, [(0, .retAddr 0), (1, .ref 0), (2, .ref 69), (3, .ref 86), (4, .int (nI i))], [.int ((Int32.ofNat Ls) - 6), .int (nI i)])) (h' := zH v w t) rfl ?_
  refine zx.br (f1 := (1933, [(0, .retAddr 0), (1, .ref 0), (2, .ref 69), (3, .ref 86), (4, .int (nI i))], [])) (f2 := (33, [(0, .retAddr 0), (1, .ref 0), (2, .ref 69), (3, .ref 86), (4, .int (nI i))], [])) rfl (fun c1 => absurd (of_decide_eq_true c1) (zl_cmp0 hL (by omega) hi)) (fun c1 => ?_)
  refine zx.adv 2 (f' := (36, [(0, .retAddr 0), (1, .ref 0), (2, .ref 69), (3, .ref 86), (4, .int (nI i))], [.int (nI i), .retAddr 0])) (h' := zH v w t) rfl ?_
  refine zx.ob (f' := (37, [(0, .retAddr 0), (1, .ref 0), (2, .ref 69), (3, .ref 86), (4, .int (nI i))], [.int (xs (nI i).toNatClampNeg)])) (h' := zH v w t) rfl (zk_inN (show i < Ls by omega) (by omega)) ?_
  rw [nI_clamp (show i < 2 ^ 31 by omega)]
  refine zx.adv 2 (f' := (40, [(0, .retAddr 0), (1, .ref 0), (2, .ref 69), (3, .ref 86), (4, .int (nI i))], [.int ((xs i) &&& 63)])) (h' := zH v w t) rfl ?_
  rw [show (xs i) &&& 63 = 10 from hc]
  refine zx.adv 6 (f' := (596, [(0, .retAddr 0), (1, .ref 0), (2, .ref 69), (3, .ref 86), (4, .int (nI i))], [.int ((nI i) + 1), .retAddr 0, .ref 0])) (h' := zH v w t) rfl ?_
  rw [show (nI i) + 1 = nI (i + 1) from nI_add i 1]
  refine zx.ob (f' := (597, [(0, .retAddr 0), (1, .ref 0), (2, .ref 69), (3, .ref 86), (4, .int (nI i))], [.int (xs (nI (i + 1)).toNatClampNeg), .ref 0])) (h' := zH v w t) rfl (zk_inN (show (i + 1) < Ls by omega) (by omega)) ?_
  rw [nI_clamp (show (i + 1) < 2 ^ 31 by omega)]
  skip
  · obtain ⟨a, v1, w1, v2, w2, h1, h2, hj⟩ := (zT_strikesNext (Ls := Ls) (xs := xs) (t := t) h (xs (i + 1))).i rfl rfl (Or.inl rfl)
    refine zx.cl (v := some (.int a)) (h' := zH v1 w1 t) rfl h1 ?_
    show zx zk_mt zk_ex Ls xs zm_311 (600, [(0, .retAddr 0), (1, .ref 0), (2, .ref 69), (3, .ref 86), (4, .int (nI i))], [.int a]) (zH v1 w1 t) _
    refine zx.adv 5 (f' := (606, [(0, .retAddr 0), (1, .ref 0), (2, .ref 69), (3, .ref 86), (4, .int (nI i))], [.int ((nI i) + 1), .retAddr 0, .ref 69, .int a])) (h' := zH v1 w1 t) rfl ?_
    rw [show (nI i) + 1 = nI (i + 1) from nI_add i 1]
    refine zx.ob (f' := (607, [(0, .retAddr 0), (1, .ref 0), (2, .ref 69), (3, .ref 86), (4, .int (nI i))], [.int (xs (nI (i + 1)).toNatClampNeg), .ref 69, .int a])) (h' := zH v1 w1 t) rfl (zk_inN (show (i + 1) < Ls by omega) (by omega)) ?_
    rw [nI_clamp (show (i + 1) < 2 ^ 31 by omega)]
    refine zx.cl (v := some (.int a)) (h' := zH v2 w2 t) rfl h2 ?_
    show zx zk_mt zk_ex Ls xs zm_311 (610, [(0, .retAddr 0), (1, .ref 0), (2, .ref 69), (3, .ref 86), (4, .int (nI i))], [.int a, .int a]) (zH v2 w2 t) _
    refine zx.br (f1 := (1927, [(0, .retAddr 0), (1, .ref 0), (2, .ref 69), (3, .ref 86), (4, .int (nI i))], [])) (f2 := (613, [(0, .retAddr 0), (1, .ref 0), (2, .ref 69), (3, .ref 86), (4, .int (nI i))], [])) rfl (fun c2 => ?_) (fun c2 => absurd rfl (of_decide_eq_false c2))
    refine zx.adv 1 (f' := (1930, [(0, .retAddr 0), (1, .ref 0), (2, .ref 69), (3, .ref 86), (4, .int ((nI i) + 6))], [])) (h' := zH v2 w2 t) rfl ?_
    rw [show (nI i) + 6 = nI (i + 6) from nI_add i 6]
    refine zx.adv 1 (f' := (23, [(0, .retAddr 0), (1, .ref 0), (2, .ref 69), (3, .ref 86), (4, .int (nI (i + 6)))], [])) (h' := zH v2 w2 t) rfl ?_
    exact hQ v2 w2 t (by omega) (by omega) hj
theorem zlc_11 {Q : Option Value × zk_H → Prop} {i : Nat} (hL : Ls ≤ 3072) (hi : i + 6 ≤ Ls) (h : zJ v w) (hc : xs i &&& 63 = nI 11) (hQ : ∀ v2 w2 t2, t2.length ≤ t.length + 1 → zk_sl t2 ≤ zk_sl t + 6 → zJ v2 w2 → zx zk_mt zk_ex Ls xs zm_311 (23, [(0, .retAddr 0), (1, .ref 0), (2, .ref 69), (3, .ref 86), (4, .int (nI (i + 6)))], []) (zH v2 w2 t2) Q) : zx zk_mt zk_ex Ls xs zm_311 (23, [(0, .retAddr 0), (1, .ref 0), (2, .ref 69), (3, .ref 86), (4, .int (nI i))], []) (zH v w t) Q := by
  refine zx.adv 5 (f' := (30, [(0, .retAddr 0), (1, .ref 0), (2, .ref 69), (3, .ref 86), (4, .int (nI i))], [.int ((Int32.ofNat Ls) - 6), .int (nI i)])) (h' := zH v w t) rfl ?_
  refine zx.br (f1 := (1933, [(0, .retAddr 0), (1, .ref 0), (2, .ref 69), (3, .ref 86), (4, .int (nI i))], [])) (f2 := (33, [(0, .retAddr 0), (1, .ref 0), (2, .ref 69), (3, .ref 86), (4, .int (nI i))], [])) rfl (fun c1 => absurd (of_decide_eq_true c1) (zl_cmp0 hL (by omega) hi)) (fun c1 => ?_)
  refine zx.adv 2 (f' := (36, [(0, .retAddr 0), (1, .ref 0), (2, .ref 69), (3, .ref 86), (4, .int (nI i))], [.int (nI i), .retAddr 0])) (h' := zH v w t) rfl ?_
  refine zx.ob (f' := (37, [(0, .retAddr 0), (1, .ref 0), (2, .ref 69), (3, .ref 86), (4, .int (nI i))], [.int (xs (nI i).toNatClampNeg)])) (h' := zH v w t) rfl (zk_inN (show i < Ls by omega) (by omega)) ?_
  rw [nI_clamp (show i < 2 ^ 31 by omega)]
  refine zx.adv 2 (f' := (40, [(0, .retAddr 0), (1, .ref 0), (2, .ref 69), (3, .ref 86), (4, .int (nI i))], [.int ((xs i) &&& 63)])) (h' := zH v w t) rfl ?_
  rw [show (xs i) &&& 63 = 11 from hc]
  refine zx.adv 6 (f' := (621, [(0, .retAddr 0), (1, .ref 0), (2, .ref 69), (3, .ref 86), (4, .int (nI i))], [.int ((nI i) + 1), .retAddr 0, .ref 0])) (h' := zH v w t) rfl ?_
  rw [show (nI i) + 1 = nI (i + 1) from nI_add i 1]
  refine zx.ob (f' := (622, [(0, .retAddr 0), (1, .ref 0), (2, .ref 69), (3, .ref 86), (4, .int (nI i))], [.int (xs (nI (i + 1)).toNatClampNeg), .ref 0])) (h' := zH v w t) rfl (zk_inN (show (i + 1) < Ls by omega) (by omega)) ?_
  rw [nI_clamp (show (i + 1) < 2 ^ 31 by omega)]
  skip
  · obtain ⟨a, v1, w1, v2, w2, h1, h2, hj⟩ := (zT_worthIn (Ls := Ls) (xs := xs) (t := t) h (xs (i + 1))).i rfl rfl (Or.inl rfl)
    refine zx.cl (v := some (.int a)) (h' := zH v1 w1 t) rfl h1 ?_
    show zx zk_mt zk_ex Ls xs zm_311 (625, [(0, .retAddr 0), (1, .ref 0), (2, .ref 69), (3, .ref 86), (4, .int (nI i))], [.int a]) (zH v1 w1 t) _
    refine zx.adv 5 (f' := (631, [(0, .retAddr 0), (1, .ref 0), (2, .ref 69), (3, .ref 86), (4, .int (nI i))], [.int ((nI i) + 1), .retAddr 0, .ref 69, .int a])) (h' := zH v1 w1 t) rfl ?_
    rw [show (nI i) + 1 = nI (i + 1) from nI_add i 1]
    refine zx.ob (f' := (632, [(0, .retAddr 0), (1, .ref 0), (2, .ref 69), (3, .ref 86), (4, .int (nI i))], [.int (xs (nI (i + 1)).toNatClampNeg), .ref 69, .int a])) (h' := zH v1 w1 t) rfl (zk_inN (show (i + 1) < Ls by omega) (by omega)) ?_
    rw [nI_clamp (show (i + 1) < 2 ^ 31 by omega)]
    refine zx.cl (v := some (.int a)) (h' := zH v2 w2 t) rfl h2 ?_
    show zx zk_mt zk_ex Ls xs zm_311 (635, [(0, .retAddr 0), (1, .ref 0), (2, .ref 69), (3, .ref 86), (4, .int (nI i))], [.int a, .int a]) (zH v2 w2 t) _
    refine zx.br (f1 := (1927, [(0, .retAddr 0), (1, .ref 0), (2, .ref 69), (3, .ref 86), (4, .int (nI i))], [])) (f2 := (638, [(0, .retAddr 0), (1, .ref 0), (2, .ref 69), (3, .ref 86), (4, .int (nI i))], [])) rfl (fun c2 => ?_) (fun c2 => absurd rfl (of_decide_eq_false c2))
    refine zx.adv 1 (f' := (1930, [(0, .retAddr 0), (1, .ref 0), (2, .ref 69), (3, .ref 86), (4, .int ((nI i) + 6))], [])) (h' := zH v2 w2 t) rfl ?_
    rw [show (nI i) + 6 = nI (i + 6) from nI_add i 6]
    refine zx.adv 1 (f' := (23, [(0, .retAddr 0), (1, .ref 0), (2, .ref 69), (3, .ref 86), (4, .int (nI (i + 6)))], [])) (h' := zH v2 w2 t) rfl ?_
    exact hQ v2 w2 t (by omega) (by omega) hj
theorem zlc_12 {Q : Option Value × zk_H → Prop} {i : Nat} (hL : Ls ≤ 3072) (hi : i + 6 ≤ Ls) (h : zJ v w) (hc : xs i &&& 63 = nI 12) (hQ : ∀ v2 w2 t2, t2.length ≤ t.length + 1 → zk_sl t2 ≤ zk_sl t + 6 → zJ v2 w2 → zx zk_mt zk_ex Ls xs zm_311 (23, [(0, .retAddr 0), (1, .ref 0), (2, .ref 69), (3, .ref 86), (4, .int (nI (i + 6)))], []) (zH v2 w2 t2) Q) : zx zk_mt zk_ex Ls xs zm_311 (23, [(0, .retAddr 0), (1, .ref 0), (2, .ref 69), (3, .ref 86), (4, .int (nI i))], []) (zH v w t) Q := by
  refine zx.adv 5 (f' := (30, [(0, .retAddr 0), (1, .ref 0), (2, .ref 69), (3, .ref 86), (4, .int (nI i))], [.int ((Int32.ofNat Ls) - 6), .int (nI i)])) (h' := zH v w t) rfl ?_
  refine zx.br (f1 := (1933, [(0, .retAddr 0), (1, .ref 0), (2, .ref 69), (3, .ref 86), (4, .int (nI i))], [])) (f2 := (33, [(0, .retAddr 0), (1, .ref 0), (2, .ref 69), (3, .ref 86), (4, .int (nI i))], [])) rfl (fun c1 => absurd (of_decide_eq_true c1) (zl_cmp0 hL (by omega) hi)) (fun c1 => ?_)
  refine zx.adv 2 (f' := (36, [(0, .retAddr 0), (1, .ref 0), (2, .ref 69), (3, .ref 86), (4, .int (nI i))], [.int (nI i), .retAddr 0])) (h' := zH v w t) rfl ?_
  refine zx.ob (f' := (37, [(0, .retAddr 0), (1, .ref 0), (2, .ref 69), (3, .ref 86), (4, .int (nI i))], [.int (xs (nI i).toNatClampNeg)])) (h' := zH v w t) rfl (zk_inN (show i < Ls by omega) (by omega)) ?_
  rw [nI_clamp (show i < 2 ^ 31 by omega)]
  refine zx.adv 2 (f' := (40, [(0, .retAddr 0), (1, .ref 0), (2, .ref 69), (3, .ref 86), (4, .int (nI i))], [.int ((xs i) &&& 63)])) (h' := zH v w t) rfl ?_
  rw [show (xs i) &&& 63 = 12 from hc]
  refine zx.adv 6 (f' := (646, [(0, .retAddr 0), (1, .ref 0), (2, .ref 69), (3, .ref 86), (4, .int (nI i))], [.int ((nI i) + 1), .retAddr 0, .ref 0])) (h' := zH v w t) rfl ?_
  rw [show (nI i) + 1 = nI (i + 1) from nI_add i 1]
  refine zx.ob (f' := (647, [(0, .retAddr 0), (1, .ref 0), (2, .ref 69), (3, .ref 86), (4, .int (nI i))], [.int (xs (nI (i + 1)).toNatClampNeg), .ref 0])) (h' := zH v w t) rfl (zk_inN (show (i + 1) < Ls by omega) (by omega)) ?_
  rw [nI_clamp (show (i + 1) < 2 ^ 31 by omega)]
  skip
  · obtain ⟨a, v1, w1, v2, w2, h1, h2, hj⟩ := (zT_lost (Ls := Ls) (xs := xs) (t := t) h (xs (i + 1))).i rfl rfl (Or.inl rfl)
    refine zx.cl (v := some (.int a)) (h' := zH v1 w1 t) rfl h1 ?_
    show zx zk_mt zk_ex Ls xs zm_311 (650, [(0, .retAddr 0), (1, .ref 0), (2, .ref 69), (3, .ref 86), (4, .int (nI i))], [.int a]) (zH v1 w1 t) _
    refine zx.adv 5 (f' := (656, [(0, .retAddr 0), (1, .ref 0), (2, .ref 69), (3, .ref 86), (4, .int (nI i))], [.int ((nI i) + 1), .retAddr 0, .ref 69, .int a])) (h' := zH v1 w1 t) rfl ?_
    rw [show (nI i) + 1 = nI (i + 1) from nI_add i 1]
    refine zx.ob (f' := (657, [(0, .retAddr 0), (1, .ref 0), (2, .ref 69), (3, .ref 86), (4, .int (nI i))], [.int (xs (nI (i + 1)).toNatClampNeg), .ref 69, .int a])) (h' := zH v1 w1 t) rfl (zk_inN (show (i + 1) < Ls by omega) (by omega)) ?_
    rw [nI_clamp (show (i + 1) < 2 ^ 31 by omega)]
    refine zx.cl (v := some (.int a)) (h' := zH v2 w2 t) rfl h2 ?_
    show zx zk_mt zk_ex Ls xs zm_311 (660, [(0, .retAddr 0), (1, .ref 0), (2, .ref 69), (3, .ref 86), (4, .int (nI i))], [.int a, .int a]) (zH v2 w2 t) _
    refine zx.br (f1 := (1927, [(0, .retAddr 0), (1, .ref 0), (2, .ref 69), (3, .ref 86), (4, .int (nI i))], [])) (f2 := (663, [(0, .retAddr 0), (1, .ref 0), (2, .ref 69), (3, .ref 86), (4, .int (nI i))], [])) rfl (fun c2 => ?_) (fun c2 => absurd rfl (of_decide_eq_false c2))
    refine zx.adv 1 (f' := (1930, [(0, .retAddr 0), (1, .ref 0), (2, .ref 69), (3, .ref 86), (4, .int ((nI i) + 6))], [])) (h' := zH v2 w2 t) rfl ?_
    rw [show (nI i) + 6 = nI (i + 6) from nI_add i 6]
    refine zx.adv 1 (f' := (23, [(0, .retAddr 0), (1, .ref 0), (2, .ref 69), (3, .ref 86), (4, .int (nI (i + 6)))], [])) (h' := zH v2 w2 t) rfl ?_
    exact hQ v2 w2 t (by omega) (by omega) hj
theorem zlc_13 {Q : Option Value × zk_H → Prop} {i : Nat} (hL : Ls ≤ 3072) (hi : i + 6 ≤ Ls) (h : zJ v w) (hc : xs i &&& 63 = nI 13) (hQ : ∀ v2 w2 t2, t2.length ≤ t.length + 1 → zk_sl t2 ≤ zk_sl t + 6 → zJ v2 w2 → zx zk_mt zk_ex Ls xs zm_311 (23, [(0, .retAddr 0), (1, .ref 0), (2, .ref 69), (3, .ref 86), (4, .int (nI (i + 6)))], []) (zH v2 w2 t2) Q) : zx zk_mt zk_ex Ls xs zm_311 (23, [(0, .retAddr 0), (1, .ref 0), (2, .ref 69), (3, .ref 86), (4, .int (nI i))], []) (zH v w t) Q := by
  refine zx.adv 5 (f' := (30, [(0, .retAddr 0), (1, .ref 0), (2, .ref 69), (3, .ref 86), (4, .int (nI i))], [.int ((Int32.ofNat Ls) - 6), .int (nI i)])) (h' := zH v w t) rfl ?_
  refine zx.br (f1 := (1933, [(0, .retAddr 0), (1, .ref 0), (2, .ref 69), (3, .ref 86), (4, .int (nI i))], [])) (f2 := (33, [(0, .retAddr 0), (1, .ref 0), (2, .ref 69), (3, .ref 86), (4, .int (nI i))], [])) rfl (fun c1 => absurd (of_decide_eq_true c1) (zl_cmp0 hL (by omega) hi)) (fun c1 => ?_)
  refine zx.adv 2 (f' := (36, [(0, .retAddr 0), (1, .ref 0), (2, .ref 69), (3, .ref 86), (4, .int (nI i))], [.int (nI i), .retAddr 0])) (h' := zH v w t) rfl ?_
  refine zx.ob (f' := (37, [(0, .retAddr 0), (1, .ref 0), (2, .ref 69), (3, .ref 86), (4, .int (nI i))], [.int (xs (nI i).toNatClampNeg)])) (h' := zH v w t) rfl (zk_inN (show i < Ls by omega) (by omega)) ?_
  rw [nI_clamp (show i < 2 ^ 31 by omega)]
  refine zx.adv 2 (f' := (40, [(0, .retAddr 0), (1, .ref 0), (2, .ref 69), (3, .ref 86), (4, .int (nI i))], [.int ((xs i) &&& 63)])) (h' := zH v w t) rfl ?_
  rw [show (xs i) &&& 63 = 13 from hc]
  refine zx.adv 6 (f' := (671, [(0, .retAddr 0), (1, .ref 0), (2, .ref 69), (3, .ref 86), (4, .int (nI i))], [.int ((nI i) + 1), .retAddr 0, .ref 0])) (h' := zH v w t) rfl ?_
  rw [show (nI i) + 1 = nI (i + 1) from nI_add i 1]
  refine zx.ob (f' := (672, [(0, .retAddr 0), (1, .ref 0), (2, .ref 69), (3, .ref 86), (4, .int (nI i))], [.int (xs (nI (i + 1)).toNatClampNeg), .ref 0])) (h' := zH v w t) rfl (zk_inN (show (i + 1) < Ls by omega) (by omega)) ?_
  rw [nI_clamp (show (i + 1) < 2 ^ 31 by omega)]
  skip
  · obtain ⟨a, v1, w1, v2, w2, h1, h2, hj⟩ := (zT_lostIn (Ls := Ls) (xs := xs) (t := t) h (xs (i + 1))).i rfl rfl (Or.inl rfl)
    refine zx.cl (v := some (.int a)) (h' := zH v1 w1 t) rfl h1 ?_
    show zx zk_mt zk_ex Ls xs zm_311 (675, [(0, .retAddr 0), (1, .ref 0), (2, .ref 69), (3, .ref 86), (4, .int (nI i))], [.int a]) (zH v1 w1 t) _
    refine zx.adv 5 (f' := (681, [(0, .retAddr 0), (1, .ref 0), (2, .ref 69), (3, .ref 86), (4, .int (nI i))], [.int ((nI i) + 1), .retAddr 0, .ref 69, .int a])) (h' := zH v1 w1 t) rfl ?_
    rw [show (nI i) + 1 = nI (i + 1) from nI_add i 1]
    refine zx.ob (f' := (682, [(0, .retAddr 0), (1, .ref 0), (2, .ref 69), (3, .ref 86), (4, .int (nI i))], [.int (xs (nI (i + 1)).toNatClampNeg), .ref 69, .int a])) (h' := zH v1 w1 t) rfl (zk_inN (show (i + 1) < Ls by omega) (by omega)) ?_
    rw [nI_clamp (show (i + 1) < 2 ^ 31 by omega)]
    refine zx.cl (v := some (.int a)) (h' := zH v2 w2 t) rfl h2 ?_
    show zx zk_mt zk_ex Ls xs zm_311 (685, [(0, .retAddr 0), (1, .ref 0), (2, .ref 69), (3, .ref 86), (4, .int (nI i))], [.int a, .int a]) (zH v2 w2 t) _
    refine zx.br (f1 := (1927, [(0, .retAddr 0), (1, .ref 0), (2, .ref 69), (3, .ref 86), (4, .int (nI i))], [])) (f2 := (688, [(0, .retAddr 0), (1, .ref 0), (2, .ref 69), (3, .ref 86), (4, .int (nI i))], [])) rfl (fun c2 => ?_) (fun c2 => absurd rfl (of_decide_eq_false c2))
    refine zx.adv 1 (f' := (1930, [(0, .retAddr 0), (1, .ref 0), (2, .ref 69), (3, .ref 86), (4, .int ((nI i) + 6))], [])) (h' := zH v2 w2 t) rfl ?_
    rw [show (nI i) + 6 = nI (i + 6) from nI_add i 6]
    refine zx.adv 1 (f' := (23, [(0, .retAddr 0), (1, .ref 0), (2, .ref 69), (3, .ref 86), (4, .int (nI (i + 6)))], [])) (h' := zH v2 w2 t) rfl ?_
    exact hQ v2 w2 t (by omega) (by omega) hj
theorem zlc_14 {Q : Option Value × zk_H → Prop} {i : Nat} (hL : Ls ≤ 3072) (hi : i + 6 ≤ Ls) (h : zJ v w) (hc : xs i &&& 63 = nI 14) (hQ : ∀ v2 w2 t2, t2.length ≤ t.length + 1 → zk_sl t2 ≤ zk_sl t + 6 → zJ v2 w2 → zx zk_mt zk_ex Ls xs zm_311 (23, [(0, .retAddr 0), (1, .ref 0), (2, .ref 69), (3, .ref 86), (4, .int (nI (i + 6)))], []) (zH v2 w2 t2) Q) : zx zk_mt zk_ex Ls xs zm_311 (23, [(0, .retAddr 0), (1, .ref 0), (2, .ref 69), (3, .ref 86), (4, .int (nI i))], []) (zH v w t) Q := by
  refine zx.adv 5 (f' := (30, [(0, .retAddr 0), (1, .ref 0), (2, .ref 69), (3, .ref 86), (4, .int (nI i))], [.int ((Int32.ofNat Ls) - 6), .int (nI i)])) (h' := zH v w t) rfl ?_
  refine zx.br (f1 := (1933, [(0, .retAddr 0), (1, .ref 0), (2, .ref 69), (3, .ref 86), (4, .int (nI i))], [])) (f2 := (33, [(0, .retAddr 0), (1, .ref 0), (2, .ref 69), (3, .ref 86), (4, .int (nI i))], [])) rfl (fun c1 => absurd (of_decide_eq_true c1) (zl_cmp0 hL (by omega) hi)) (fun c1 => ?_)
  refine zx.adv 2 (f' := (36, [(0, .retAddr 0), (1, .ref 0), (2, .ref 69), (3, .ref 86), (4, .int (nI i))], [.int (nI i), .retAddr 0])) (h' := zH v w t) rfl ?_
  refine zx.ob (f' := (37, [(0, .retAddr 0), (1, .ref 0), (2, .ref 69), (3, .ref 86), (4, .int (nI i))], [.int (xs (nI i).toNatClampNeg)])) (h' := zH v w t) rfl (zk_inN (show i < Ls by omega) (by omega)) ?_
  rw [nI_clamp (show i < 2 ^ 31 by omega)]
  refine zx.adv 2 (f' := (40, [(0, .retAddr 0), (1, .ref 0), (2, .ref 69), (3, .ref 86), (4, .int (nI i))], [.int ((xs i) &&& 63)])) (h' := zH v w t) rfl ?_
  rw [show (xs i) &&& 63 = 14 from hc]
  refine zx.adv 6 (f' := (696, [(0, .retAddr 0), (1, .ref 0), (2, .ref 69), (3, .ref 86), (4, .int (nI i))], [.int ((nI i) + 1), .retAddr 0, .ref 0])) (h' := zH v w t) rfl ?_
  rw [show (nI i) + 1 = nI (i + 1) from nI_add i 1]
  refine zx.ob (f' := (697, [(0, .retAddr 0), (1, .ref 0), (2, .ref 69), (3, .ref 86), (4, .int (nI i))], [.int (xs (nI (i + 1)).toNatClampNeg), .ref 0])) (h' := zH v w t) rfl (zk_inN (show (i + 1) < Ls by omega) (by omega)) ?_
  rw [nI_clamp (show (i + 1) < 2 ^ 31 by omega)]
  skip
  · obtain ⟨a, v1, w1, v2, w2, h1, h2, hj⟩ := (zT_lostBy (Ls := Ls) (xs := xs) (t := t) h (xs (i + 1))).i rfl rfl (Or.inl rfl)
    refine zx.cl (v := some (.int a)) (h' := zH v1 w1 t) rfl h1 ?_
    show zx zk_mt zk_ex Ls xs zm_311 (700, [(0, .retAddr 0), (1, .ref 0), (2, .ref 69), (3, .ref 86), (4, .int (nI i))], [.int a]) (zH v1 w1 t) _
    refine zx.adv 5 (f' := (706, [(0, .retAddr 0), (1, .ref 0), (2, .ref 69), (3, .ref 86), (4, .int (nI i))], [.int ((nI i) + 1), .retAddr 0, .ref 69, .int a])) (h' := zH v1 w1 t) rfl ?_
    rw [show (nI i) + 1 = nI (i + 1) from nI_add i 1]
    refine zx.ob (f' := (707, [(0, .retAddr 0), (1, .ref 0), (2, .ref 69), (3, .ref 86), (4, .int (nI i))], [.int (xs (nI (i + 1)).toNatClampNeg), .ref 69, .int a])) (h' := zH v1 w1 t) rfl (zk_inN (show (i + 1) < Ls by omega) (by omega)) ?_
    rw [nI_clamp (show (i + 1) < 2 ^ 31 by omega)]
    refine zx.cl (v := some (.int a)) (h' := zH v2 w2 t) rfl h2 ?_
    show zx zk_mt zk_ex Ls xs zm_311 (710, [(0, .retAddr 0), (1, .ref 0), (2, .ref 69), (3, .ref 86), (4, .int (nI i))], [.int a, .int a]) (zH v2 w2 t) _
    refine zx.br (f1 := (1927, [(0, .retAddr 0), (1, .ref 0), (2, .ref 69), (3, .ref 86), (4, .int (nI i))], [])) (f2 := (713, [(0, .retAddr 0), (1, .ref 0), (2, .ref 69), (3, .ref 86), (4, .int (nI i))], [])) rfl (fun c2 => ?_) (fun c2 => absurd rfl (of_decide_eq_false c2))
    refine zx.adv 1 (f' := (1930, [(0, .retAddr 0), (1, .ref 0), (2, .ref 69), (3, .ref 86), (4, .int ((nI i) + 6))], [])) (h' := zH v2 w2 t) rfl ?_
    rw [show (nI i) + 6 = nI (i + 6) from nI_add i 6]
    refine zx.adv 1 (f' := (23, [(0, .retAddr 0), (1, .ref 0), (2, .ref 69), (3, .ref 86), (4, .int (nI (i + 6)))], [])) (h' := zH v2 w2 t) rfl ?_
    exact hQ v2 w2 t (by omega) (by omega) hj
theorem zlc_15 {Q : Option Value × zk_H → Prop} {i : Nat} (hL : Ls ≤ 3072) (hi : i + 6 ≤ Ls) (h : zJ v w) (hc : xs i &&& 63 = nI 15) (hQ : ∀ v2 w2 t2, t2.length ≤ t.length + 1 → zk_sl t2 ≤ zk_sl t + 6 → zJ v2 w2 → zx zk_mt zk_ex Ls xs zm_311 (23, [(0, .retAddr 0), (1, .ref 0), (2, .ref 69), (3, .ref 86), (4, .int (nI (i + 6)))], []) (zH v2 w2 t2) Q) : zx zk_mt zk_ex Ls xs zm_311 (23, [(0, .retAddr 0), (1, .ref 0), (2, .ref 69), (3, .ref 86), (4, .int (nI i))], []) (zH v w t) Q := by
  refine zx.adv 5 (f' := (30, [(0, .retAddr 0), (1, .ref 0), (2, .ref 69), (3, .ref 86), (4, .int (nI i))], [.int ((Int32.ofNat Ls) - 6), .int (nI i)])) (h' := zH v w t) rfl ?_
  refine zx.br (f1 := (1933, [(0, .retAddr 0), (1, .ref 0), (2, .ref 69), (3, .ref 86), (4, .int (nI i))], [])) (f2 := (33, [(0, .retAddr 0), (1, .ref 0), (2, .ref 69), (3, .ref 86), (4, .int (nI i))], [])) rfl (fun c1 => absurd (of_decide_eq_true c1) (zl_cmp0 hL (by omega) hi)) (fun c1 => ?_)
  refine zx.adv 2 (f' := (36, [(0, .retAddr 0), (1, .ref 0), (2, .ref 69), (3, .ref 86), (4, .int (nI i))], [.int (nI i), .retAddr 0])) (h' := zH v w t) rfl ?_
  refine zx.ob (f' := (37, [(0, .retAddr 0), (1, .ref 0), (2, .ref 69), (3, .ref 86), (4, .int (nI i))], [.int (xs (nI i).toNatClampNeg)])) (h' := zH v w t) rfl (zk_inN (show i < Ls by omega) (by omega)) ?_
  rw [nI_clamp (show i < 2 ^ 31 by omega)]
  refine zx.adv 2 (f' := (40, [(0, .retAddr 0), (1, .ref 0), (2, .ref 69), (3, .ref 86), (4, .int (nI i))], [.int ((xs i) &&& 63)])) (h' := zH v w t) rfl ?_
  rw [show (xs i) &&& 63 = 15 from hc]
  refine zx.adv 6 (f' := (721, [(0, .retAddr 0), (1, .ref 0), (2, .ref 69), (3, .ref 86), (4, .int (nI i))], [.int ((nI i) + 1), .retAddr 0, .ref 0])) (h' := zH v w t) rfl ?_
  rw [show (nI i) + 1 = nI (i + 1) from nI_add i 1]
  refine zx.ob (f' := (722, [(0, .retAddr 0), (1, .ref 0), (2, .ref 69), (3, .ref 86), (4, .int (nI i))], [.int (xs (nI (i + 1)).toNatClampNeg), .ref 0])) (h' := zH v w t) rfl (zk_inN (show (i + 1) < Ls by omega) (by omega)) ?_
  rw [nI_clamp (show (i + 1) < 2 ^ 31 by omega)]
  skip
  · obtain ⟨a, v1, w1, v2, w2, h1, h2, hj⟩ := (zT_wornIn (Ls := Ls) (xs := xs) (t := t) h (xs (i + 1))).i rfl rfl (Or.inl rfl)
    refine zx.cl (v := some (.int a)) (h' := zH v1 w1 t) rfl h1 ?_
    show zx zk_mt zk_ex Ls xs zm_311 (725, [(0, .retAddr 0), (1, .ref 0), (2, .ref 69), (3, .ref 86), (4, .int (nI i))], [.int a]) (zH v1 w1 t) _
    refine zx.adv 5 (f' := (731, [(0, .retAddr 0), (1, .ref 0), (2, .ref 69), (3, .ref 86), (4, .int (nI i))], [.int ((nI i) + 1), .retAddr 0, .ref 69, .int a])) (h' := zH v1 w1 t) rfl ?_
    rw [show (nI i) + 1 = nI (i + 1) from nI_add i 1]
    refine zx.ob (f' := (732, [(0, .retAddr 0), (1, .ref 0), (2, .ref 69), (3, .ref 86), (4, .int (nI i))], [.int (xs (nI (i + 1)).toNatClampNeg), .ref 69, .int a])) (h' := zH v1 w1 t) rfl (zk_inN (show (i + 1) < Ls by omega) (by omega)) ?_
    rw [nI_clamp (show (i + 1) < 2 ^ 31 by omega)]
    refine zx.cl (v := some (.int a)) (h' := zH v2 w2 t) rfl h2 ?_
    show zx zk_mt zk_ex Ls xs zm_311 (735, [(0, .retAddr 0), (1, .ref 0), (2, .ref 69), (3, .ref 86), (4, .int (nI i))], [.int a, .int a]) (zH v2 w2 t) _
    refine zx.br (f1 := (1927, [(0, .retAddr 0), (1, .ref 0), (2, .ref 69), (3, .ref 86), (4, .int (nI i))], [])) (f2 := (738, [(0, .retAddr 0), (1, .ref 0), (2, .ref 69), (3, .ref 86), (4, .int (nI i))], [])) rfl (fun c2 => ?_) (fun c2 => absurd rfl (of_decide_eq_false c2))
    refine zx.adv 1 (f' := (1930, [(0, .retAddr 0), (1, .ref 0), (2, .ref 69), (3, .ref 86), (4, .int ((nI i) + 6))], [])) (h' := zH v2 w2 t) rfl ?_
    rw [show (nI i) + 6 = nI (i + 6) from nI_add i 6]
    refine zx.adv 1 (f' := (23, [(0, .retAddr 0), (1, .ref 0), (2, .ref 69), (3, .ref 86), (4, .int (nI (i + 6)))], [])) (h' := zH v2 w2 t) rfl ?_
    exact hQ v2 w2 t (by omega) (by omega) hj
theorem zlc_16 {Q : Option Value × zk_H → Prop} {i : Nat} (hL : Ls ≤ 3072) (hi : i + 6 ≤ Ls) (h : zJ v w) (hc : xs i &&& 63 = nI 16) (hQ : ∀ v2 w2 t2, t2.length ≤ t.length + 1 → zk_sl t2 ≤ zk_sl t + 6 → zJ v2 w2 → zx zk_mt zk_ex Ls xs zm_311 (23, [(0, .retAddr 0), (1, .ref 0), (2, .ref 69), (3, .ref 86), (4, .int (nI (i + 6)))], []) (zH v2 w2 t2) Q) : zx zk_mt zk_ex Ls xs zm_311 (23, [(0, .retAddr 0), (1, .ref 0), (2, .ref 69), (3, .ref 86), (4, .int (nI i))], []) (zH v w t) Q := by
  refine zx.adv 5 (f' := (30, [(0, .retAddr 0), (1, .ref 0), (2, .ref 69), (3, .ref 86), (4, .int (nI i))], [.int ((Int32.ofNat Ls) - 6), .int (nI i)])) (h' := zH v w t) rfl ?_
  refine zx.br (f1 := (1933, [(0, .retAddr 0), (1, .ref 0), (2, .ref 69), (3, .ref 86), (4, .int (nI i))], [])) (f2 := (33, [(0, .retAddr 0), (1, .ref 0), (2, .ref 69), (3, .ref 86), (4, .int (nI i))], [])) rfl (fun c1 => absurd (of_decide_eq_true c1) (zl_cmp0 hL (by omega) hi)) (fun c1 => ?_)
  refine zx.adv 2 (f' := (36, [(0, .retAddr 0), (1, .ref 0), (2, .ref 69), (3, .ref 86), (4, .int (nI i))], [.int (nI i), .retAddr 0])) (h' := zH v w t) rfl ?_
  refine zx.ob (f' := (37, [(0, .retAddr 0), (1, .ref 0), (2, .ref 69), (3, .ref 86), (4, .int (nI i))], [.int (xs (nI i).toNatClampNeg)])) (h' := zH v w t) rfl (zk_inN (show i < Ls by omega) (by omega)) ?_
  rw [nI_clamp (show i < 2 ^ 31 by omega)]
  refine zx.adv 2 (f' := (40, [(0, .retAddr 0), (1, .ref 0), (2, .ref 69), (3, .ref 86), (4, .int (nI i))], [.int ((xs i) &&& 63)])) (h' := zH v w t) rfl ?_
  rw [show (xs i) &&& 63 = 16 from hc]
  refine zx.adv 6 (f' := (746, [(0, .retAddr 0), (1, .ref 0), (2, .ref 69), (3, .ref 86), (4, .int (nI i))], [.int ((nI i) + 1), .retAddr 0, .ref 0])) (h' := zH v w t) rfl ?_
  rw [show (nI i) + 1 = nI (i + 1) from nI_add i 1]
  refine zx.ob (f' := (747, [(0, .retAddr 0), (1, .ref 0), (2, .ref 69), (3, .ref 86), (4, .int (nI i))], [.int (xs (nI (i + 1)).toNatClampNeg), .ref 0])) (h' := zH v w t) rfl (zk_inN (show (i + 1) < Ls by omega) (by omega)) ?_
  rw [nI_clamp (show (i + 1) < 2 ^ 31 by omega)]
  refine zx.adv 4 (f' := (752, [(0, .retAddr 0), (1, .ref 0), (2, .ref 69), (3, .ref 86), (4, .int (nI i))], [.int ((nI i) + 2), .retAddr 0, .int (xs (i + 1)), .ref 0])) (h' := zH v w t) rfl ?_
  rw [show (nI i) + 2 = nI (i + 2) from nI_add i 2]
  refine zx.ob (f' := (753, [(0, .retAddr 0), (1, .ref 0), (2, .ref 69), (3, .ref 86), (4, .int (nI i))], [.int (xs (nI (i + 2)).toNatClampNeg), .int (xs (i + 1)), .ref 0])) (h' := zH v w t) rfl (zk_inN (show (i + 2) < Ls by omega) (by omega)) ?_
  rw [nI_clamp (show (i + 2) < 2 ^ 31 by omega)]
  skip
  · obtain ⟨a, v1, w1, v2, w2, h1, h2, hj⟩ := (zT_lastsIn (Ls := Ls) (xs := xs) (t := t) h (xs (i + 1)) (xs (i + 2))).i rfl rfl (Or.inl rfl)
    refine zx.cl (v := some (.int a)) (h' := zH v1 w1 t) rfl h1 ?_
    show zx zk_mt zk_ex Ls xs zm_311 (756, [(0, .retAddr 0), (1, .ref 0), (2, .ref 69), (3, .ref 86), (4, .int (nI i))], [.int a]) (zH v1 w1 t) _
    refine zx.adv 5 (f' := (762, [(0, .retAddr 0), (1, .ref 0), (2, .ref 69), (3, .ref 86), (4, .int (nI i))], [.int ((nI i) + 1), .retAddr 0, .ref 69, .int a])) (h' := zH v1 w1 t) rfl ?_
    rw [show (nI i) + 1 = nI (i + 1) from nI_add i 1]
    refine zx.ob (f' := (763, [(0, .retAddr 0), (1, .ref 0), (2, .ref 69), (3, .ref 86), (4, .int (nI i))], [.int (xs (nI (i + 1)).toNatClampNeg), .ref 69, .int a])) (h' := zH v1 w1 t) rfl (zk_inN (show (i + 1) < Ls by omega) (by omega)) ?_
    rw [nI_clamp (show (i + 1) < 2 ^ 31 by omega)]
    refine zx.adv 4 (f' := (768, [(0, .retAddr 0), (1, .ref 0), (2, .ref 69), (3, .ref 86), (4, .int (nI i))], [.int ((nI i) + 2), .retAddr 0, .int (xs (i + 1)), .ref 69, .int a])) (h' := zH v1 w1 t) rfl ?_
    rw [show (nI i) + 2 = nI (i + 2) from nI_add i 2]
    refine zx.ob (f' := (769, [(0, .retAddr 0), (1, .ref 0), (2, .ref 69), (3, .ref 86), (4, .int (nI i))], [.int (xs (nI (i + 2)).toNatClampNeg), .int (xs (i + 1)), .ref 69, .int a])) (h' := zH v1 w1 t) rfl (zk_inN (show (i + 2) < Ls by omega) (by omega)) ?_
    rw [nI_clamp (show (i + 2) < 2 ^ 31 by omega)]
    refine zx.cl (v := some (.int a)) (h' := zH v2 w2 t) rfl h2 ?_
    show zx zk_mt zk_ex Ls xs zm_311 (772, [(0, .retAddr 0), (1, .ref 0), (2, .ref 69), (3, .ref 86), (4, .int (nI i))], [.int a, .int a]) (zH v2 w2 t) _
    refine zx.br (f1 := (1927, [(0, .retAddr 0), (1, .ref 0), (2, .ref 69), (3, .ref 86), (4, .int (nI i))], [])) (f2 := (775, [(0, .retAddr 0), (1, .ref 0), (2, .ref 69), (3, .ref 86), (4, .int (nI i))], [])) rfl (fun c2 => ?_) (fun c2 => absurd rfl (of_decide_eq_false c2))
    refine zx.adv 1 (f' := (1930, [(0, .retAddr 0), (1, .ref 0), (2, .ref 69), (3, .ref 86), (4, .int ((nI i) + 6))], [])) (h' := zH v2 w2 t) rfl ?_
    rw [show (nI i) + 6 = nI (i + 6) from nI_add i 6]
    refine zx.adv 1 (f' := (23, [(0, .retAddr 0), (1, .ref 0), (2, .ref 69), (3, .ref 86), (4, .int (nI (i + 6)))], [])) (h' := zH v2 w2 t) rfl ?_
    exact hQ v2 w2 t (by omega) (by omega) hj
theorem zlc_17 {Q : Option Value × zk_H → Prop} {i : Nat} (hL : Ls ≤ 3072) (hi : i + 6 ≤ Ls) (h : zJ v w) (hc : xs i &&& 63 = nI 17) (hQ : ∀ v2 w2 t2, t2.length ≤ t.length + 1 → zk_sl t2 ≤ zk_sl t + 6 → zJ v2 w2 → zx zk_mt zk_ex Ls xs zm_311 (23, [(0, .retAddr 0), (1, .ref 0), (2, .ref 69), (3, .ref 86), (4, .int (nI (i + 6)))], []) (zH v2 w2 t2) Q) : zx zk_mt zk_ex Ls xs zm_311 (23, [(0, .retAddr 0), (1, .ref 0), (2, .ref 69), (3, .ref 86), (4, .int (nI i))], []) (zH v w t) Q := by
  refine zx.adv 5 (f' := (30, [(0, .retAddr 0), (1, .ref 0), (2, .ref 69), (3, .ref 86), (4, .int (nI i))], [.int ((Int32.ofNat Ls) - 6), .int (nI i)])) (h' := zH v w t) rfl ?_
  refine zx.br (f1 := (1933, [(0, .retAddr 0), (1, .ref 0), (2, .ref 69), (3, .ref 86), (4, .int (nI i))], [])) (f2 := (33, [(0, .retAddr 0), (1, .ref 0), (2, .ref 69), (3, .ref 86), (4, .int (nI i))], [])) rfl (fun c1 => absurd (of_decide_eq_true c1) (zl_cmp0 hL (by omega) hi)) (fun c1 => ?_)
  refine zx.adv 2 (f' := (36, [(0, .retAddr 0), (1, .ref 0), (2, .ref 69), (3, .ref 86), (4, .int (nI i))], [.int (nI i), .retAddr 0])) (h' := zH v w t) rfl ?_
  refine zx.ob (f' := (37, [(0, .retAddr 0), (1, .ref 0), (2, .ref 69), (3, .ref 86), (4, .int (nI i))], [.int (xs (nI i).toNatClampNeg)])) (h' := zH v w t) rfl (zk_inN (show i < Ls by omega) (by omega)) ?_
  rw [nI_clamp (show i < 2 ^ 31 by omega)]
  refine zx.adv 2 (f' := (40, [(0, .retAddr 0), (1, .ref 0), (2, .ref 69), (3, .ref 86), (4, .int (nI i))], [.int ((xs i) &&& 63)])) (h' := zH v w t) rfl ?_
  rw [show (xs i) &&& 63 = 17 from hc]
  refine zx.adv 6 (f' := (783, [(0, .retAddr 0), (1, .ref 0), (2, .ref 69), (3, .ref 86), (4, .int (nI i))], [.int ((nI i) + 1), .retAddr 0, .ref 0])) (h' := zH v w t) rfl ?_
  rw [show (nI i) + 1 = nI (i + 1) from nI_add i 1]
  refine zx.ob (f' := (784, [(0, .retAddr 0), (1, .ref 0), (2, .ref 69), (3, .ref 86), (4, .int (nI i))], [.int (xs (nI (i + 1)).toNatClampNeg), .ref 0])) (h' := zH v w t) rfl (zk_inN (show (i + 1) < Ls by omega) (by omega)) ?_
  rw [nI_clamp (show (i + 1) < 2 ^ 31 by omega)]
  skip
  · obtain ⟨a, v1, w1, v2, w2, h1, h2, hj⟩ := (zT_keptOut (Ls := Ls) (xs := xs) (t := t) h (xs (i + 1))).i rfl rfl (Or.inl rfl)
    refine zx.cl (v := some (.int a)) (h' := zH v1 w1 t) rfl h1 ?_
    show zx zk_mt zk_ex Ls xs zm_311 (787, [(0, .retAddr 0), (1, .ref 0), (2, .ref 69), (3, .ref 86), (4, .int (nI i))], [.int a]) (zH v1 w1 t) _
    refine zx.adv 5 (f' := (793, [(0, .retAddr 0), (1, .ref 0), (2, .ref 69), (3, .ref 86), (4, .int (nI i))], [.int ((nI i) + 1), .retAddr 0, .ref 69, .int a])) (h' := zH v1 w1 t) rfl ?_
    rw [show (nI i) + 1 = nI (i + 1) from nI_add i 1]
    refine zx.ob (f' := (794, [(0, .retAddr 0), (1, .ref 0), (2, .ref 69), (3, .ref 86), (4, .int (nI i))], [.int (xs (nI (i + 1)).toNatClampNeg), .ref 69, .int a])) (h' := zH v1 w1 t) rfl (zk_inN (show (i + 1) < Ls by omega) (by omega)) ?_
    rw [nI_clamp (show (i + 1) < 2 ^ 31 by omega)]
    refine zx.cl (v := some (.int a)) (h' := zH v2 w2 t) rfl h2 ?_
    show zx zk_mt zk_ex Ls xs zm_311 (797, [(0, .retAddr 0), (1, .ref 0), (2, .ref 69), (3, .ref 86), (4, .int (nI i))], [.int a, .int a]) (zH v2 w2 t) _
    refine zx.br (f1 := (1927, [(0, .retAddr 0), (1, .ref 0), (2, .ref 69), (3, .ref 86), (4, .int (nI i))], [])) (f2 := (800, [(0, .retAddr 0), (1, .ref 0), (2, .ref 69), (3, .ref 86), (4, .int (nI i))], [])) rfl (fun c2 => ?_) (fun c2 => absurd rfl (of_decide_eq_false c2))
    refine zx.adv 1 (f' := (1930, [(0, .retAddr 0), (1, .ref 0), (2, .ref 69), (3, .ref 86), (4, .int ((nI i) + 6))], [])) (h' := zH v2 w2 t) rfl ?_
    rw [show (nI i) + 6 = nI (i + 6) from nI_add i 6]
    refine zx.adv 1 (f' := (23, [(0, .retAddr 0), (1, .ref 0), (2, .ref 69), (3, .ref 86), (4, .int (nI (i + 6)))], [])) (h' := zH v2 w2 t) rfl ?_
    exact hQ v2 w2 t (by omega) (by omega) hj
theorem zlc_18 {Q : Option Value × zk_H → Prop} {i : Nat} (hL : Ls ≤ 3072) (hi : i + 6 ≤ Ls) (h : zJ v w) (hc : xs i &&& 63 = nI 18) (hQ : ∀ v2 w2 t2, t2.length ≤ t.length + 1 → zk_sl t2 ≤ zk_sl t + 6 → zJ v2 w2 → zx zk_mt zk_ex Ls xs zm_311 (23, [(0, .retAddr 0), (1, .ref 0), (2, .ref 69), (3, .ref 86), (4, .int (nI (i + 6)))], []) (zH v2 w2 t2) Q) : zx zk_mt zk_ex Ls xs zm_311 (23, [(0, .retAddr 0), (1, .ref 0), (2, .ref 69), (3, .ref 86), (4, .int (nI i))], []) (zH v w t) Q := by
  refine zx.adv 5 (f' := (30, [(0, .retAddr 0), (1, .ref 0), (2, .ref 69), (3, .ref 86), (4, .int (nI i))], [.int ((Int32.ofNat Ls) - 6), .int (nI i)])) (h' := zH v w t) rfl ?_
  refine zx.br (f1 := (1933, [(0, .retAddr 0), (1, .ref 0), (2, .ref 69), (3, .ref 86), (4, .int (nI i))], [])) (f2 := (33, [(0, .retAddr 0), (1, .ref 0), (2, .ref 69), (3, .ref 86), (4, .int (nI i))], [])) rfl (fun c1 => absurd (of_decide_eq_true c1) (zl_cmp0 hL (by omega) hi)) (fun c1 => ?_)
  refine zx.adv 2 (f' := (36, [(0, .retAddr 0), (1, .ref 0), (2, .ref 69), (3, .ref 86), (4, .int (nI i))], [.int (nI i), .retAddr 0])) (h' := zH v w t) rfl ?_
  refine zx.ob (f' := (37, [(0, .retAddr 0), (1, .ref 0), (2, .ref 69), (3, .ref 86), (4, .int (nI i))], [.int (xs (nI i).toNatClampNeg)])) (h' := zH v w t) rfl (zk_inN (show i < Ls by omega) (by omega)) ?_
  rw [nI_clamp (show i < 2 ^ 31 by omega)]
  refine zx.adv 2 (f' := (40, [(0, .retAddr 0), (1, .ref 0), (2, .ref 69), (3, .ref 86), (4, .int (nI i))], [.int ((xs i) &&& 63)])) (h' := zH v w t) rfl ?_
  rw [show (xs i) &&& 63 = 18 from hc]
  refine zx.adv 6 (f' := (808, [(0, .retAddr 0), (1, .ref 0), (2, .ref 69), (3, .ref 86), (4, .int (nI i))], [.int ((nI i) + 1), .retAddr 0, .ref 0])) (h' := zH v w t) rfl ?_
  rw [show (nI i) + 1 = nI (i + 1) from nI_add i 1]
  refine zx.ob (f' := (809, [(0, .retAddr 0), (1, .ref 0), (2, .ref 69), (3, .ref 86), (4, .int (nI i))], [.int (xs (nI (i + 1)).toNatClampNeg), .ref 0])) (h' := zH v w t) rfl (zk_inN (show (i + 1) < Ls by omega) (by omega)) ?_
  rw [nI_clamp (show (i + 1) < 2 ^ 31 by omega)]
  skip
  · obtain ⟨a, v1, w1, v2, w2, h1, h2, hj⟩ := (zT_busiest (Ls := Ls) (xs := xs) (t := t) h (xs (i + 1))).i rfl rfl (Or.inl rfl)
    refine zx.cl (v := some (.int a)) (h' := zH v1 w1 t) rfl h1 ?_
    show zx zk_mt zk_ex Ls xs zm_311 (812, [(0, .retAddr 0), (1, .ref 0), (2, .ref 69), (3, .ref 86), (4, .int (nI i))], [.int a]) (zH v1 w1 t) _
    refine zx.adv 5 (f' := (818, [(0, .retAddr 0), (1, .ref 0), (2, .ref 69), (3, .ref 86), (4, .int (nI i))], [.int ((nI i) + 1), .retAddr 0, .ref 69, .int a])) (h' := zH v1 w1 t) rfl ?_
    rw [show (nI i) + 1 = nI (i + 1) from nI_add i 1]
    refine zx.ob (f' := (819, [(0, .retAddr 0), (1, .ref 0), (2, .ref 69), (3, .ref 86), (4, .int (nI i))], [.int (xs (nI (i + 1)).toNatClampNeg), .ref 69, .int a])) (h' := zH v1 w1 t) rfl (zk_inN (show (i + 1) < Ls by omega) (by omega)) ?_
    rw [nI_clamp (show (i + 1) < 2 ^ 31 by omega)]
    refine zx.cl (v := some (.int a)) (h' := zH v2 w2 t) rfl h2 ?_
    show zx zk_mt zk_ex Ls xs zm_311 (822, [(0, .retAddr 0), (1, .ref 0), (2, .ref 69), (3, .ref 86), (4, .int (nI i))], [.int a, .int a]) (zH v2 w2 t) _
    refine zx.br (f1 := (1927, [(0, .retAddr 0), (1, .ref 0), (2, .ref 69), (3, .ref 86), (4, .int (nI i))], [])) (f2 := (825, [(0, .retAddr 0), (1, .ref 0), (2, .ref 69), (3, .ref 86), (4, .int (nI i))], [])) rfl (fun c2 => ?_) (fun c2 => absurd rfl (of_decide_eq_false c2))
    refine zx.adv 1 (f' := (1930, [(0, .retAddr 0), (1, .ref 0), (2, .ref 69), (3, .ref 86), (4, .int ((nI i) + 6))], [])) (h' := zH v2 w2 t) rfl ?_
    rw [show (nI i) + 6 = nI (i + 6) from nI_add i 6]
    refine zx.adv 1 (f' := (23, [(0, .retAddr 0), (1, .ref 0), (2, .ref 69), (3, .ref 86), (4, .int (nI (i + 6)))], [])) (h' := zH v2 w2 t) rfl ?_
    exact hQ v2 w2 t (by omega) (by omega) hj
theorem zlc_19 {Q : Option Value × zk_H → Prop} {i : Nat} (hL : Ls ≤ 3072) (hi : i + 6 ≤ Ls) (h : zJ v w) (hc : xs i &&& 63 = nI 19) (hQ : ∀ v2 w2 t2, t2.length ≤ t.length + 1 → zk_sl t2 ≤ zk_sl t + 6 → zJ v2 w2 → zx zk_mt zk_ex Ls xs zm_311 (23, [(0, .retAddr 0), (1, .ref 0), (2, .ref 69), (3, .ref 86), (4, .int (nI (i + 6)))], []) (zH v2 w2 t2) Q) : zx zk_mt zk_ex Ls xs zm_311 (23, [(0, .retAddr 0), (1, .ref 0), (2, .ref 69), (3, .ref 86), (4, .int (nI i))], []) (zH v w t) Q := by
  refine zx.adv 5 (f' := (30, [(0, .retAddr 0), (1, .ref 0), (2, .ref 69), (3, .ref 86), (4, .int (nI i))], [.int ((Int32.ofNat Ls) - 6), .int (nI i)])) (h' := zH v w t) rfl ?_
  refine zx.br (f1 := (1933, [(0, .retAddr 0), (1, .ref 0), (2, .ref 69), (3, .ref 86), (4, .int (nI i))], [])) (f2 := (33, [(0, .retAddr 0), (1, .ref 0), (2, .ref 69), (3, .ref 86), (4, .int (nI i))], [])) rfl (fun c1 => absurd (of_decide_eq_true c1) (zl_cmp0 hL (by omega) hi)) (fun c1 => ?_)
  refine zx.adv 2 (f' := (36, [(0, .retAddr 0), (1, .ref 0), (2, .ref 69), (3, .ref 86), (4, .int (nI i))], [.int (nI i), .retAddr 0])) (h' := zH v w t) rfl ?_
  refine zx.ob (f' := (37, [(0, .retAddr 0), (1, .ref 0), (2, .ref 69), (3, .ref 86), (4, .int (nI i))], [.int (xs (nI i).toNatClampNeg)])) (h' := zH v w t) rfl (zk_inN (show i < Ls by omega) (by omega)) ?_
  rw [nI_clamp (show i < 2 ^ 31 by omega)]
  refine zx.adv 2 (f' := (40, [(0, .retAddr 0), (1, .ref 0), (2, .ref 69), (3, .ref 86), (4, .int (nI i))], [.int ((xs i) &&& 63)])) (h' := zH v w t) rfl ?_
  rw [show (xs i) &&& 63 = 19 from hc]
  refine zx.adv 6 (f' := (833, [(0, .retAddr 0), (1, .ref 0), (2, .ref 69), (3, .ref 86), (4, .int (nI i))], [.int ((nI i) + 1), .retAddr 0, .ref 0])) (h' := zH v w t) rfl ?_
  rw [show (nI i) + 1 = nI (i + 1) from nI_add i 1]
  refine zx.ob (f' := (834, [(0, .retAddr 0), (1, .ref 0), (2, .ref 69), (3, .ref 86), (4, .int (nI i))], [.int (xs (nI (i + 1)).toNatClampNeg), .ref 0])) (h' := zH v w t) rfl (zk_inN (show (i + 1) < Ls by omega) (by omega)) ?_
  rw [nI_clamp (show (i + 1) < 2 ^ 31 by omega)]
  skip
  · obtain ⟨a, v1, w1, v2, w2, h1, h2, hj⟩ := (zT_worst (Ls := Ls) (xs := xs) (t := t) h (xs (i + 1))).i rfl rfl (Or.inl rfl)
    refine zx.cl (v := some (.int a)) (h' := zH v1 w1 t) rfl h1 ?_
    show zx zk_mt zk_ex Ls xs zm_311 (837, [(0, .retAddr 0), (1, .ref 0), (2, .ref 69), (3, .ref 86), (4, .int (nI i))], [.int a]) (zH v1 w1 t) _
    refine zx.adv 5 (f' := (843, [(0, .retAddr 0), (1, .ref 0), (2, .ref 69), (3, .ref 86), (4, .int (nI i))], [.int ((nI i) + 1), .retAddr 0, .ref 69, .int a])) (h' := zH v1 w1 t) rfl ?_
    rw [show (nI i) + 1 = nI (i + 1) from nI_add i 1]
    refine zx.ob (f' := (844, [(0, .retAddr 0), (1, .ref 0), (2, .ref 69), (3, .ref 86), (4, .int (nI i))], [.int (xs (nI (i + 1)).toNatClampNeg), .ref 69, .int a])) (h' := zH v1 w1 t) rfl (zk_inN (show (i + 1) < Ls by omega) (by omega)) ?_
    rw [nI_clamp (show (i + 1) < 2 ^ 31 by omega)]
    refine zx.cl (v := some (.int a)) (h' := zH v2 w2 t) rfl h2 ?_
    show zx zk_mt zk_ex Ls xs zm_311 (847, [(0, .retAddr 0), (1, .ref 0), (2, .ref 69), (3, .ref 86), (4, .int (nI i))], [.int a, .int a]) (zH v2 w2 t) _
    refine zx.br (f1 := (1927, [(0, .retAddr 0), (1, .ref 0), (2, .ref 69), (3, .ref 86), (4, .int (nI i))], [])) (f2 := (850, [(0, .retAddr 0), (1, .ref 0), (2, .ref 69), (3, .ref 86), (4, .int (nI i))], [])) rfl (fun c2 => ?_) (fun c2 => absurd rfl (of_decide_eq_false c2))
    refine zx.adv 1 (f' := (1930, [(0, .retAddr 0), (1, .ref 0), (2, .ref 69), (3, .ref 86), (4, .int ((nI i) + 6))], [])) (h' := zH v2 w2 t) rfl ?_
    rw [show (nI i) + 6 = nI (i + 6) from nI_add i 6]
    refine zx.adv 1 (f' := (23, [(0, .retAddr 0), (1, .ref 0), (2, .ref 69), (3, .ref 86), (4, .int (nI (i + 6)))], [])) (h' := zH v2 w2 t) rfl ?_
    exact hQ v2 w2 t (by omega) (by omega) hj
theorem zlc_20 {Q : Option Value × zk_H → Prop} {i : Nat} (hL : Ls ≤ 3072) (hi : i + 6 ≤ Ls) (h : zJ v w) (hc : xs i &&& 63 = nI 20) (hQ : ∀ v2 w2 t2, t2.length ≤ t.length + 1 → zk_sl t2 ≤ zk_sl t + 6 → zJ v2 w2 → zx zk_mt zk_ex Ls xs zm_311 (23, [(0, .retAddr 0), (1, .ref 0), (2, .ref 69), (3, .ref 86), (4, .int (nI (i + 6)))], []) (zH v2 w2 t2) Q) : zx zk_mt zk_ex Ls xs zm_311 (23, [(0, .retAddr 0), (1, .ref 0), (2, .ref 69), (3, .ref 86), (4, .int (nI i))], []) (zH v w t) Q := by
  refine zx.adv 5 (f' := (30, [(0, .retAddr 0), (1, .ref 0), (2, .ref 69), (3, .ref 86), (4, .int (nI i))], [.int ((Int32.ofNat Ls) - 6), .int (nI i)])) (h' := zH v w t) rfl ?_
  refine zx.br (f1 := (1933, [(0, .retAddr 0), (1, .ref 0), (2, .ref 69), (3, .ref 86), (4, .int (nI i))], [])) (f2 := (33, [(0, .retAddr 0), (1, .ref 0), (2, .ref 69), (3, .ref 86), (4, .int (nI i))], [])) rfl (fun c1 => absurd (of_decide_eq_true c1) (zl_cmp0 hL (by omega) hi)) (fun c1 => ?_)
  refine zx.adv 2 (f' := (36, [(0, .retAddr 0), (1, .ref 0), (2, .ref 69), (3, .ref 86), (4, .int (nI i))], [.int (nI i), .retAddr 0])) (h' := zH v w t) rfl ?_
  refine zx.ob (f' := (37, [(0, .retAddr 0), (1, .ref 0), (2, .ref 69), (3, .ref 86), (4, .int (nI i))], [.int (xs (nI i).toNatClampNeg)])) (h' := zH v w t) rfl (zk_inN (show i < Ls by omega) (by omega)) ?_
  rw [nI_clamp (show i < 2 ^ 31 by omega)]
  refine zx.adv 2 (f' := (40, [(0, .retAddr 0), (1, .ref 0), (2, .ref 69), (3, .ref 86), (4, .int (nI i))], [.int ((xs i) &&& 63)])) (h' := zH v w t) rfl ?_
  rw [show (xs i) &&& 63 = 20 from hc]
  refine zx.adv 2 (f' := (853, [(0, .retAddr 0), (1, .ref 0), (2, .ref 69), (3, .ref 86), (4, .int (nI i))], [.ref 0])) (h' := zH v w t) rfl ?_
  skip
  · obtain ⟨a, v1, w1, v2, w2, h1, h2, hj⟩ := (zT_still (Ls := Ls) (xs := xs) (t := t) h ).i rfl rfl (Or.inl rfl)
    refine zx.cl (v := some (.int a)) (h' := zH v1 w1 t) rfl h1 ?_
    show zx zk_mt zk_ex Ls xs zm_311 (856, [(0, .retAddr 0), (1, .ref 0), (2, .ref 69), (3, .ref 86), (4, .int (nI i))], [.int a]) (zH v1 w1 t) _
    refine zx.adv 1 (f' := (857, [(0, .retAddr 0), (1, .ref 0), (2, .ref 69), (3, .ref 86), (4, .int (nI i))], [.ref 69, .int a])) (h' := zH v1 w1 t) rfl ?_
    refine zx.cl (v := some (.int a)) (h' := zH v2 w2 t) rfl h2 ?_
    show zx zk_mt zk_ex Ls xs zm_311 (860, [(0, .retAddr 0), (1, .ref 0), (2, .ref 69), (3, .ref 86), (4, .int (nI i))], [.int a, .int a]) (zH v2 w2 t) _
    refine zx.br (f1 := (1927, [(0, .retAddr 0), (1, .ref 0), (2, .ref 69), (3, .ref 86), (4, .int (nI i))], [])) (f2 := (863, [(0, .retAddr 0), (1, .ref 0), (2, .ref 69), (3, .ref 86), (4, .int (nI i))], [])) rfl (fun c2 => ?_) (fun c2 => absurd rfl (of_decide_eq_false c2))
    refine zx.adv 1 (f' := (1930, [(0, .retAddr 0), (1, .ref 0), (2, .ref 69), (3, .ref 86), (4, .int ((nI i) + 6))], [])) (h' := zH v2 w2 t) rfl ?_
    rw [show (nI i) + 6 = nI (i + 6) from nI_add i 6]
    refine zx.adv 1 (f' := (23, [(0, .retAddr 0), (1, .ref 0), (2, .ref 69), (3, .ref 86), (4, .int (nI (i + 6)))], [])) (h' := zH v2 w2 t) rfl ?_
    exact hQ v2 w2 t (by omega) (by omega) hj
theorem zlc_21 {Q : Option Value × zk_H → Prop} {i : Nat} (hL : Ls ≤ 3072) (hi : i + 6 ≤ Ls) (h : zJ v w) (hc : xs i &&& 63 = nI 21) (hQ : ∀ v2 w2 t2, t2.length ≤ t.length + 1 → zk_sl t2 ≤ zk_sl t + 6 → zJ v2 w2 → zx zk_mt zk_ex Ls xs zm_311 (23, [(0, .retAddr 0), (1, .ref 0), (2, .ref 69), (3, .ref 86), (4, .int (nI (i + 6)))], []) (zH v2 w2 t2) Q) : zx zk_mt zk_ex Ls xs zm_311 (23, [(0, .retAddr 0), (1, .ref 0), (2, .ref 69), (3, .ref 86), (4, .int (nI i))], []) (zH v w t) Q := by
  refine zx.adv 5 (f' := (30, [(0, .retAddr 0), (1, .ref 0), (2, .ref 69), (3, .ref 86), (4, .int (nI i))], [.int ((Int32.ofNat Ls) - 6), .int (nI i)])) (h' := zH v w t) rfl ?_
  refine zx.br (f1 := (1933, [(0, .retAddr 0), (1, .ref 0), (2, .ref 69), (3, .ref 86), (4, .int (nI i))], [])) (f2 := (33, [(0, .retAddr 0), (1, .ref 0), (2, .ref 69), (3, .ref 86), (4, .int (nI i))], [])) rfl (fun c1 => absurd (of_decide_eq_true c1) (zl_cmp0 hL (by omega) hi)) (fun c1 => ?_)
  refine zx.adv 2 (f' := (36, [(0, .retAddr 0), (1, .ref 0), (2, .ref 69), (3, .ref 86), (4, .int (nI i))], [.int (nI i), .retAddr 0])) (h' := zH v w t) rfl ?_
  refine zx.ob (f' := (37, [(0, .retAddr 0), (1, .ref 0), (2, .ref 69), (3, .ref 86), (4, .int (nI i))], [.int (xs (nI i).toNatClampNeg)])) (h' := zH v w t) rfl (zk_inN (show i < Ls by omega) (by omega)) ?_
  rw [nI_clamp (show i < 2 ^ 31 by omega)]
  refine zx.adv 2 (f' := (40, [(0, .retAddr 0), (1, .ref 0), (2, .ref 69), (3, .ref 86), (4, .int (nI i))], [.int ((xs i) &&& 63)])) (h' := zH v w t) rfl ?_
  rw [show (xs i) &&& 63 = 21 from hc]
  refine zx.adv 6 (f' := (871, [(0, .retAddr 0), (1, .ref 0), (2, .ref 69), (3, .ref 86), (4, .int (nI i))], [.int ((nI i) + 1), .retAddr 0, .ref 0])) (h' := zH v w t) rfl ?_
  rw [show (nI i) + 1 = nI (i + 1) from nI_add i 1]
  refine zx.ob (f' := (872, [(0, .retAddr 0), (1, .ref 0), (2, .ref 69), (3, .ref 86), (4, .int (nI i))], [.int (xs (nI (i + 1)).toNatClampNeg), .ref 0])) (h' := zH v w t) rfl (zk_inN (show (i + 1) < Ls by omega) (by omega)) ?_
  rw [nI_clamp (show (i + 1) < 2 ^ 31 by omega)]
  skip
  · obtain ⟨a, v1, w1, v2, w2, h1, h2, hj⟩ := (zT_lay (Ls := Ls) (xs := xs) (t := t) h (xs (i + 1))).i rfl rfl (Or.inl rfl)
    refine zx.cl (v := some (.int a)) (h' := zH v1 w1 t) rfl h1 ?_
    show zx zk_mt zk_ex Ls xs zm_311 (875, [(0, .retAddr 0), (1, .ref 0), (2, .ref 69), (3, .ref 86), (4, .int (nI i))], [.int a]) (zH v1 w1 t) _
    refine zx.adv 5 (f' := (881, [(0, .retAddr 0), (1, .ref 0), (2, .ref 69), (3, .ref 86), (4, .int (nI i))], [.int ((nI i) + 1), .retAddr 0, .ref 69, .int a])) (h' := zH v1 w1 t) rfl ?_
    rw [show (nI i) + 1 = nI (i + 1) from nI_add i 1]
    refine zx.ob (f' := (882, [(0, .retAddr 0), (1, .ref 0), (2, .ref 69), (3, .ref 86), (4, .int (nI i))], [.int (xs (nI (i + 1)).toNatClampNeg), .ref 69, .int a])) (h' := zH v1 w1 t) rfl (zk_inN (show (i + 1) < Ls by omega) (by omega)) ?_
    rw [nI_clamp (show (i + 1) < 2 ^ 31 by omega)]
    refine zx.cl (v := some (.int a)) (h' := zH v2 w2 t) rfl h2 ?_
    show zx zk_mt zk_ex Ls xs zm_311 (885, [(0, .retAddr 0), (1, .ref 0), (2, .ref 69), (3, .ref 86), (4, .int (nI i))], [.int a, .int a]) (zH v2 w2 t) _
    refine zx.br (f1 := (1927, [(0, .retAddr 0), (1, .ref 0), (2, .ref 69), (3, .ref 86), (4, .int (nI i))], [])) (f2 := (888, [(0, .retAddr 0), (1, .ref 0), (2, .ref 69), (3, .ref 86), (4, .int (nI i))], [])) rfl (fun c2 => ?_) (fun c2 => absurd rfl (of_decide_eq_false c2))
    refine zx.adv 1 (f' := (1930, [(0, .retAddr 0), (1, .ref 0), (2, .ref 69), (3, .ref 86), (4, .int ((nI i) + 6))], [])) (h' := zH v2 w2 t) rfl ?_
    rw [show (nI i) + 6 = nI (i + 6) from nI_add i 6]
    refine zx.adv 1 (f' := (23, [(0, .retAddr 0), (1, .ref 0), (2, .ref 69), (3, .ref 86), (4, .int (nI (i + 6)))], [])) (h' := zH v2 w2 t) rfl ?_
    exact hQ v2 w2 t (by omega) (by omega) hj
theorem zlc_22 {Q : Option Value × zk_H → Prop} {i : Nat} (hL : Ls ≤ 3072) (hi : i + 6 ≤ Ls) (h : zJ v w) (hc : xs i &&& 63 = nI 22) (hQ : ∀ v2 w2 t2, t2.length ≤ t.length + 1 → zk_sl t2 ≤ zk_sl t + 6 → zJ v2 w2 → zx zk_mt zk_ex Ls xs zm_311 (23, [(0, .retAddr 0), (1, .ref 0), (2, .ref 69), (3, .ref 86), (4, .int (nI (i + 6)))], []) (zH v2 w2 t2) Q) : zx zk_mt zk_ex Ls xs zm_311 (23, [(0, .retAddr 0), (1, .ref 0), (2, .ref 69), (3, .ref 86), (4, .int (nI i))], []) (zH v w t) Q := by
  refine zx.adv 5 (f' := (30, [(0, .retAddr 0), (1, .ref 0), (2, .ref 69), (3, .ref 86), (4, .int (nI i))], [.int ((Int32.ofNat Ls) - 6), .int (nI i)])) (h' := zH v w t) rfl ?_
  refine zx.br (f1 := (1933, [(0, .retAddr 0), (1, .ref 0), (2, .ref 69), (3, .ref 86), (4, .int (nI i))], [])) (f2 := (33, [(0, .retAddr 0), (1, .ref 0), (2, .ref 69), (3, .ref 86), (4, .int (nI i))], [])) rfl (fun c1 => absurd (of_decide_eq_true c1) (zl_cmp0 hL (by omega) hi)) (fun c1 => ?_)
  refine zx.adv 2 (f' := (36, [(0, .retAddr 0), (1, .ref 0), (2, .ref 69), (3, .ref 86), (4, .int (nI i))], [.int (nI i), .retAddr 0])) (h' := zH v w t) rfl ?_
  refine zx.ob (f' := (37, [(0, .retAddr 0), (1, .ref 0), (2, .ref 69), (3, .ref 86), (4, .int (nI i))], [.int (xs (nI i).toNatClampNeg)])) (h' := zH v w t) rfl (zk_inN (show i < Ls by omega) (by omega)) ?_
  rw [nI_clamp (show i < 2 ^ 31 by omega)]
  refine zx.adv 2 (f' := (40, [(0, .retAddr 0), (1, .ref 0), (2, .ref 69), (3, .ref 86), (4, .int (nI i))], [.int ((xs i) &&& 63)])) (h' := zH v w t) rfl ?_
  rw [show (xs i) &&& 63 = 22 from hc]
  refine zx.adv 6 (f' := (896, [(0, .retAddr 0), (1, .ref 0), (2, .ref 69), (3, .ref 86), (4, .int (nI i))], [.int ((nI i) + 1), .retAddr 0, .ref 0])) (h' := zH v w t) rfl ?_
  rw [show (nI i) + 1 = nI (i + 1) from nI_add i 1]
  refine zx.ob (f' := (897, [(0, .retAddr 0), (1, .ref 0), (2, .ref 69), (3, .ref 86), (4, .int (nI i))], [.int (xs (nI (i + 1)).toNatClampNeg), .ref 0])) (h' := zH v w t) rfl (zk_inN (show (i + 1) < Ls by omega) (by omega)) ?_
  rw [nI_clamp (show (i + 1) < 2 ^ 31 by omega)]
  refine zx.adv 4 (f' := (902, [(0, .retAddr 0), (1, .ref 0), (2, .ref 69), (3, .ref 86), (4, .int (nI i))], [.int ((nI i) + 2), .retAddr 0, .int (xs (i + 1)), .ref 0])) (h' := zH v w t) rfl ?_
  rw [show (nI i) + 2 = nI (i + 2) from nI_add i 2]
  refine zx.ob (f' := (903, [(0, .retAddr 0), (1, .ref 0), (2, .ref 69), (3, .ref 86), (4, .int (nI i))], [.int (xs (nI (i + 2)).toNatClampNeg), .int (xs (i + 1)), .ref 0])) (h' := zH v w t) rfl (zk_inN (show (i + 2) < Ls by omega) (by omega)) ?_
  rw [nI_clamp (show (i + 2) < 2 ^ 31 by omega)]
  skip
  · obtain ⟨a, v1, w1, v2, w2, h1, h2, hj⟩ := (zT_layAt (Ls := Ls) (xs := xs) (t := t) h (xs (i + 1)) (xs (i + 2))).i rfl rfl (Or.inl rfl)
    refine zx.cl (v := some (.int a)) (h' := zH v1 w1 t) rfl h1 ?_
    show zx zk_mt zk_ex Ls xs zm_311 (906, [(0, .retAddr 0), (1, .ref 0), (2, .ref 69), (3, .ref 86), (4, .int (nI i))], [.int a]) (zH v1 w1 t) _
    refine zx.adv 5 (f' := (912, [(0, .retAddr 0), (1, .ref 0), (2, .ref 69), (3, .ref 86), (4, .int (nI i))], [.int ((nI i) + 1), .retAddr 0, .ref 69, .int a])) (h' := zH v1 w1 t) rfl ?_
    rw [show (nI i) + 1 = nI (i + 1) from nI_add i 1]
    refine zx.ob (f' := (913, [(0, .retAddr 0), (1, .ref 0), (2, .ref 69), (3, .ref 86), (4, .int (nI i))], [.int (xs (nI (i + 1)).toNatClampNeg), .ref 69, .int a])) (h' := zH v1 w1 t) rfl (zk_inN (show (i + 1) < Ls by omega) (by omega)) ?_
    rw [nI_clamp (show (i + 1) < 2 ^ 31 by omega)]
    refine zx.adv 4 (f' := (918, [(0, .retAddr 0), (1, .ref 0), (2, .ref 69), (3, .ref 86), (4, .int (nI i))], [.int ((nI i) + 2), .retAddr 0, .int (xs (i + 1)), .ref 69, .int a])) (h' := zH v1 w1 t) rfl ?_
    rw [show (nI i) + 2 = nI (i + 2) from nI_add i 2]
    refine zx.ob (f' := (919, [(0, .retAddr 0), (1, .ref 0), (2, .ref 69), (3, .ref 86), (4, .int (nI i))], [.int (xs (nI (i + 2)).toNatClampNeg), .int (xs (i + 1)), .ref 69, .int a])) (h' := zH v1 w1 t) rfl (zk_inN (show (i + 2) < Ls by omega) (by omega)) ?_
    rw [nI_clamp (show (i + 2) < 2 ^ 31 by omega)]
    refine zx.cl (v := some (.int a)) (h' := zH v2 w2 t) rfl h2 ?_
    show zx zk_mt zk_ex Ls xs zm_311 (922, [(0, .retAddr 0), (1, .ref 0), (2, .ref 69), (3, .ref 86), (4, .int (nI i))], [.int a, .int a]) (zH v2 w2 t) _
    refine zx.br (f1 := (1927, [(0, .retAddr 0), (1, .ref 0), (2, .ref 69), (3, .ref 86), (4, .int (nI i))], [])) (f2 := (925, [(0, .retAddr 0), (1, .ref 0), (2, .ref 69), (3, .ref 86), (4, .int (nI i))], [])) rfl (fun c2 => ?_) (fun c2 => absurd rfl (of_decide_eq_false c2))
    refine zx.adv 1 (f' := (1930, [(0, .retAddr 0), (1, .ref 0), (2, .ref 69), (3, .ref 86), (4, .int ((nI i) + 6))], [])) (h' := zH v2 w2 t) rfl ?_
    rw [show (nI i) + 6 = nI (i + 6) from nI_add i 6]
    refine zx.adv 1 (f' := (23, [(0, .retAddr 0), (1, .ref 0), (2, .ref 69), (3, .ref 86), (4, .int (nI (i + 6)))], [])) (h' := zH v2 w2 t) rfl ?_
    exact hQ v2 w2 t (by omega) (by omega) hj
theorem zlc_23 {Q : Option Value × zk_H → Prop} {i : Nat} (hL : Ls ≤ 3072) (hi : i + 6 ≤ Ls) (h : zJ v w) (hc : xs i &&& 63 = nI 23) (hQ : ∀ v2 w2 t2, t2.length ≤ t.length + 1 → zk_sl t2 ≤ zk_sl t + 6 → zJ v2 w2 → zx zk_mt zk_ex Ls xs zm_311 (23, [(0, .retAddr 0), (1, .ref 0), (2, .ref 69), (3, .ref 86), (4, .int (nI (i + 6)))], []) (zH v2 w2 t2) Q) : zx zk_mt zk_ex Ls xs zm_311 (23, [(0, .retAddr 0), (1, .ref 0), (2, .ref 69), (3, .ref 86), (4, .int (nI i))], []) (zH v w t) Q := by
  refine zx.adv 5 (f' := (30, [(0, .retAddr 0), (1, .ref 0), (2, .ref 69), (3, .ref 86), (4, .int (nI i))], [.int ((Int32.ofNat Ls) - 6), .int (nI i)])) (h' := zH v w t) rfl ?_
  refine zx.br (f1 := (1933, [(0, .retAddr 0), (1, .ref 0), (2, .ref 69), (3, .ref 86), (4, .int (nI i))], [])) (f2 := (33, [(0, .retAddr 0), (1, .ref 0), (2, .ref 69), (3, .ref 86), (4, .int (nI i))], [])) rfl (fun c1 => absurd (of_decide_eq_true c1) (zl_cmp0 hL (by omega) hi)) (fun c1 => ?_)
  refine zx.adv 2 (f' := (36, [(0, .retAddr 0), (1, .ref 0), (2, .ref 69), (3, .ref 86), (4, .int (nI i))], [.int (nI i), .retAddr 0])) (h' := zH v w t) rfl ?_
  refine zx.ob (f' := (37, [(0, .retAddr 0), (1, .ref 0), (2, .ref 69), (3, .ref 86), (4, .int (nI i))], [.int (xs (nI i).toNatClampNeg)])) (h' := zH v w t) rfl (zk_inN (show i < Ls by omega) (by omega)) ?_
  rw [nI_clamp (show i < 2 ^ 31 by omega)]
  refine zx.adv 2 (f' := (40, [(0, .retAddr 0), (1, .ref 0), (2, .ref 69), (3, .ref 86), (4, .int (nI i))], [.int ((xs i) &&& 63)])) (h' := zH v w t) rfl ?_
  rw [show (xs i) &&& 63 = 23 from hc]
  refine zx.adv 6 (f' := (933, [(0, .retAddr 0), (1, .ref 0), (2, .ref 69), (3, .ref 86), (4, .int (nI i))], [.int ((nI i) + 1), .retAddr 0, .ref 0])) (h' := zH v w t) rfl ?_
  rw [show (nI i) + 1 = nI (i + 1) from nI_add i 1]
  refine zx.ob (f' := (934, [(0, .retAddr 0), (1, .ref 0), (2, .ref 69), (3, .ref 86), (4, .int (nI i))], [.int (xs (nI (i + 1)).toNatClampNeg), .ref 0])) (h' := zH v w t) rfl (zk_inN (show (i + 1) < Ls by omega) (by omega)) ?_
  rw [nI_clamp (show (i + 1) < 2 ^ 31 by omega)]
  refine zx.adv 4 (f' := (939, [(0, .retAddr 0), (1, .ref 0), (2, .ref 69), (3, .ref 86), (4, .int (nI i))], [.int ((nI i) + 2), .retAddr 0, .int (xs (i + 1)), .ref 0])) (h' := zH v w t) rfl ?_
  rw [show (nI i) + 2 = nI (i + 2) from nI_add i 2]
  refine zx.ob (f' := (940, [(0, .retAddr 0), (1, .ref 0), (2, .ref 69), (3, .ref 86), (4, .int (nI i))], [.int (xs (nI (i + 2)).toNatClampNeg), .int (xs (i + 1)), .ref 0])) (h' := zH v w t) rfl (zk_inN (show (i + 2) < Ls by omega) (by omega)) ?_
  rw [nI_clamp (show (i + 2) < 2 ^ 31 by omega)]
  refine zx.adv 4 (f' := (945, [(0, .retAddr 0), (1, .ref 0), (2, .ref 69), (3, .ref 86), (4, .int (nI i))], [.int ((nI i) + 3), .retAddr 0, .int (xs (i + 2)), .int (xs (i + 1)), .ref 0])) (h' := zH v w t) rfl ?_
  rw [show (nI i) + 3 = nI (i + 3) from nI_add i 3]
  refine zx.ob (f' := (946, [(0, .retAddr 0), (1, .ref 0), (2, .ref 69), (3, .ref 86), (4, .int (nI i))], [.int (xs (nI (i + 3)).toNatClampNeg), .int (xs (i + 2)), .int (xs (i + 1)), .ref 0])) (h' := zH v w t) rfl (zk_inN (show (i + 3) < Ls by omega) (by omega)) ?_
  rw [nI_clamp (show (i + 3) < 2 ^ 31 by omega)]
  skip
  · obtain ⟨a, v1, w1, v2, w2, h1, h2, hj⟩ := (zT_worthIf (Ls := Ls) (xs := xs) (t := t) h (xs (i + 1)) (xs (i + 2)) (xs (i + 3))).i rfl rfl (Or.inl rfl)
    refine zx.cl (v := some (.int a)) (h' := zH v1 w1 t) rfl h1 ?_
    show zx zk_mt zk_ex Ls xs zm_311 (949, [(0, .retAddr 0), (1, .ref 0), (2, .ref 69), (3, .ref 86), (4, .int (nI i))], [.int a]) (zH v1 w1 t) _
    refine zx.adv 5 (f' := (955, [(0, .retAddr 0), (1, .ref 0), (2, .ref 69), (3, .ref 86), (4, .int (nI i))], [.int ((nI i) + 1), .retAddr 0, .ref 69, .int a])) (h' := zH v1 w1 t) rfl ?_
    rw [show (nI i) + 1 = nI (i + 1) from nI_add i 1]
    refine zx.ob (f' := (956, [(0, .retAddr 0), (1, .ref 0), (2, .ref 69), (3, .ref 86), (4, .int (nI i))], [.int (xs (nI (i + 1)).toNatClampNeg), .ref 69, .int a])) (h' := zH v1 w1 t) rfl (zk_inN (show (i + 1) < Ls by omega) (by omega)) ?_
    rw [nI_clamp (show (i + 1) < 2 ^ 31 by omega)]
    refine zx.adv 4 (f' := (961, [(0, .retAddr 0), (1, .ref 0), (2, .ref 69), (3, .ref 86), (4, .int (nI i))], [.int ((nI i) + 2), .retAddr 0, .int (xs (i + 1)), .ref 69, .int a])) (h' := zH v1 w1 t) rfl ?_
    rw [show (nI i) + 2 = nI (i + 2) from nI_add i 2]
    refine zx.ob (f' := (962, [(0, .retAddr 0), (1, .ref 0), (2, .ref 69), (3, .ref 86), (4, .int (nI i))], [.int (xs (nI (i + 2)).toNatClampNeg), .int (xs (i + 1)), .ref 69, .int a])) (h' := zH v1 w1 t) rfl (zk_inN (show (i + 2) < Ls by omega) (by omega)) ?_
    rw [nI_clamp (show (i + 2) < 2 ^ 31 by omega)]
    refine zx.adv 4 (f' := (967, [(0, .retAddr 0), (1, .ref 0), (2, .ref 69), (3, .ref 86), (4, .int (nI i))], [.int ((nI i) + 3), .retAddr 0, .int (xs (i + 2)), .int (xs (i + 1)), .ref 69, .int a])) (h' := zH v1 w1 t) rfl ?_
    rw [show (nI i) + 3 = nI (i + 3) from nI_add i 3]
    refine zx.ob (f' := (968, [(0, .retAddr 0), (1, .ref 0), (2, .ref 69), (3, .ref 86), (4, .int (nI i))], [.int (xs (nI (i + 3)).toNatClampNeg), .int (xs (i + 2)), .int (xs (i + 1)), .ref 69, .int a])) (h' := zH v1 w1 t) rfl (zk_inN (show (i + 3) < Ls by omega) (by omega)) ?_
    rw [nI_clamp (show (i + 3) < 2 ^ 31 by omega)]
    refine zx.cl (v := some (.int a)) (h' := zH v2 w2 t) rfl h2 ?_
    show zx zk_mt zk_ex Ls xs zm_311 (971, [(0, .retAddr 0), (1, .ref 0), (2, .ref 69), (3, .ref 86), (4, .int (nI i))], [.int a, .int a]) (zH v2 w2 t) _
    refine zx.br (f1 := (1927, [(0, .retAddr 0), (1, .ref 0), (2, .ref 69), (3, .ref 86), (4, .int (nI i))], [])) (f2 := (974, [(0, .retAddr 0), (1, .ref 0), (2, .ref 69), (3, .ref 86), (4, .int (nI i))], [])) rfl (fun c2 => ?_) (fun c2 => absurd rfl (of_decide_eq_false c2))
    refine zx.adv 1 (f' := (1930, [(0, .retAddr 0), (1, .ref 0), (2, .ref 69), (3, .ref 86), (4, .int ((nI i) + 6))], [])) (h' := zH v2 w2 t) rfl ?_
    rw [show (nI i) + 6 = nI (i + 6) from nI_add i 6]
    refine zx.adv 1 (f' := (23, [(0, .retAddr 0), (1, .ref 0), (2, .ref 69), (3, .ref 86), (4, .int (nI (i + 6)))], [])) (h' := zH v2 w2 t) rfl ?_
    exact hQ v2 w2 t (by omega) (by omega) hj
theorem zlc_24 {Q : Option Value × zk_H → Prop} {i : Nat} (hL : Ls ≤ 3072) (hi : i + 6 ≤ Ls) (h : zJ v w) (hc : xs i &&& 63 = nI 24) (hQ : ∀ v2 w2 t2, t2.length ≤ t.length + 1 → zk_sl t2 ≤ zk_sl t + 6 → zJ v2 w2 → zx zk_mt zk_ex Ls xs zm_311 (23, [(0, .retAddr 0), (1, .ref 0), (2, .ref 69), (3, .ref 86), (4, .int (nI (i + 6)))], []) (zH v2 w2 t2) Q) : zx zk_mt zk_ex Ls xs zm_311 (23, [(0, .retAddr 0), (1, .ref 0), (2, .ref 69), (3, .ref 86), (4, .int (nI i))], []) (zH v w t) Q := by
  refine zx.adv 5 (f' := (30, [(0, .retAddr 0), (1, .ref 0), (2, .ref 69), (3, .ref 86), (4, .int (nI i))], [.int ((Int32.ofNat Ls) - 6), .int (nI i)])) (h' := zH v w t) rfl ?_
  refine zx.br (f1 := (1933, [(0, .retAddr 0), (1, .ref 0), (2, .ref 69), (3, .ref 86), (4, .int (nI i))], [])) (f2 := (33, [(0, .retAddr 0), (1, .ref 0), (2, .ref 69), (3, .ref 86), (4, .int (nI i))], [])) rfl (fun c1 => absurd (of_decide_eq_true c1) (zl_cmp0 hL (by omega) hi)) (fun c1 => ?_)
  refine zx.adv 2 (f' := (36, [(0, .retAddr 0), (1, .ref 0), (2, .ref 69), (3, .ref 86), (4, .int (nI i))], [.int (nI i), .retAddr 0])) (h' := zH v w t) rfl ?_
  refine zx.ob (f' := (37, [(0, .retAddr 0), (1, .ref 0), (2, .ref 69), (3, .ref 86), (4, .int (nI i))], [.int (xs (nI i).toNatClampNeg)])) (h' := zH v w t) rfl (zk_inN (show i < Ls by omega) (by omega)) ?_
  rw [nI_clamp (show i < 2 ^ 31 by omega)]
  refine zx.adv 2 (f' := (40, [(0, .retAddr 0), (1, .ref 0), (2, .ref 69), (3, .ref 86), (4, .int (nI i))], [.int ((xs i) &&& 63)])) (h' := zH v w t) rfl ?_
  rw [show (xs i) &&& 63 = 24 from hc]
  refine zx.adv 6 (f' := (982, [(0, .retAddr 0), (1, .ref 0), (2, .ref 69), (3, .ref 86), (4, .int (nI i))], [.int ((nI i) + 1), .retAddr 0, .ref 0])) (h' := zH v w t) rfl ?_
  rw [show (nI i) + 1 = nI (i + 1) from nI_add i 1]
  refine zx.ob (f' := (983, [(0, .retAddr 0), (1, .ref 0), (2, .ref 69), (3, .ref 86), (4, .int (nI i))], [.int (xs (nI (i + 1)).toNatClampNeg), .ref 0])) (h' := zH v w t) rfl (zk_inN (show (i + 1) < Ls by omega) (by omega)) ?_
  rw [nI_clamp (show (i + 1) < 2 ^ 31 by omega)]
  skip
  · obtain ⟨a, v1, w1, v2, w2, h1, h2, hj⟩ := (zT_nest (Ls := Ls) (xs := xs) (t := t) h (xs (i + 1))).i rfl rfl (Or.inl rfl)
    refine zx.cl (v := some (.int a)) (h' := zH v1 w1 t) rfl h1 ?_
    show zx zk_mt zk_ex Ls xs zm_311 (986, [(0, .retAddr 0), (1, .ref 0), (2, .ref 69), (3, .ref 86), (4, .int (nI i))], [.int a]) (zH v1 w1 t) _
    refine zx.adv 5 (f' := (992, [(0, .retAddr 0), (1, .ref 0), (2, .ref 69), (3, .ref 86), (4, .int (nI i))], [.int ((nI i) + 1), .retAddr 0, .ref 69, .int a])) (h' := zH v1 w1 t) rfl ?_
    rw [show (nI i) + 1 = nI (i + 1) from nI_add i 1]
    refine zx.ob (f' := (993, [(0, .retAddr 0), (1, .ref 0), (2, .ref 69), (3, .ref 86), (4, .int (nI i))], [.int (xs (nI (i + 1)).toNatClampNeg), .ref 69, .int a])) (h' := zH v1 w1 t) rfl (zk_inN (show (i + 1) < Ls by omega) (by omega)) ?_
    rw [nI_clamp (show (i + 1) < 2 ^ 31 by omega)]
    refine zx.cl (v := some (.int a)) (h' := zH v2 w2 t) rfl h2 ?_
    show zx zk_mt zk_ex Ls xs zm_311 (996, [(0, .retAddr 0), (1, .ref 0), (2, .ref 69), (3, .ref 86), (4, .int (nI i))], [.int a, .int a]) (zH v2 w2 t) _
    refine zx.br (f1 := (1927, [(0, .retAddr 0), (1, .ref 0), (2, .ref 69), (3, .ref 86), (4, .int (nI i))], [])) (f2 := (999, [(0, .retAddr 0), (1, .ref 0), (2, .ref 69), (3, .ref 86), (4, .int (nI i))], [])) rfl (fun c2 => ?_) (fun c2 => absurd rfl (of_decide_eq_false c2))
    refine zx.adv 1 (f' := (1930, [(0, .retAddr 0), (1, .ref 0), (2, .ref 69), (3, .ref 86), (4, .int ((nI i) + 6))], [])) (h' := zH v2 w2 t) rfl ?_
    rw [show (nI i) + 6 = nI (i + 6) from nI_add i 6]
    refine zx.adv 1 (f' := (23, [(0, .retAddr 0), (1, .ref 0), (2, .ref 69), (3, .ref 86), (4, .int (nI (i + 6)))], [])) (h' := zH v2 w2 t) rfl ?_
    exact hQ v2 w2 t (by omega) (by omega) hj
theorem zlc_25 {Q : Option Value × zk_H → Prop} {i : Nat} (hL : Ls ≤ 3072) (hi : i + 6 ≤ Ls) (h : zJ v w) (hc : xs i &&& 63 = nI 25) (hQ : ∀ v2 w2 t2, t2.length ≤ t.length + 1 → zk_sl t2 ≤ zk_sl t + 6 → zJ v2 w2 → zx zk_mt zk_ex Ls xs zm_311 (23, [(0, .retAddr 0), (1, .ref 0), (2, .ref 69), (3, .ref 86), (4, .int (nI (i + 6)))], []) (zH v2 w2 t2) Q) : zx zk_mt zk_ex Ls xs zm_311 (23, [(0, .retAddr 0), (1, .ref 0), (2, .ref 69), (3, .ref 86), (4, .int (nI i))], []) (zH v w t) Q := by
  refine zx.adv 5 (f' := (30, [(0, .retAddr 0), (1, .ref 0), (2, .ref 69), (3, .ref 86), (4, .int (nI i))], [.int ((Int32.ofNat Ls) - 6), .int (nI i)])) (h' := zH v w t) rfl ?_
  refine zx.br (f1 := (1933, [(0, .retAddr 0), (1, .ref 0), (2, .ref 69), (3, .ref 86), (4, .int (nI i))], [])) (f2 := (33, [(0, .retAddr 0), (1, .ref 0), (2, .ref 69), (3, .ref 86), (4, .int (nI i))], [])) rfl (fun c1 => absurd (of_decide_eq_true c1) (zl_cmp0 hL (by omega) hi)) (fun c1 => ?_)
  refine zx.adv 2 (f' := (36, [(0, .retAddr 0), (1, .ref 0), (2, .ref 69), (3, .ref 86), (4, .int (nI i))], [.int (nI i), .retAddr 0])) (h' := zH v w t) rfl ?_
  refine zx.ob (f' := (37, [(0, .retAddr 0), (1, .ref 0), (2, .ref 69), (3, .ref 86), (4, .int (nI i))], [.int (xs (nI i).toNatClampNeg)])) (h' := zH v w t) rfl (zk_inN (show i < Ls by omega) (by omega)) ?_
  rw [nI_clamp (show i < 2 ^ 31 by omega)]
  refine zx.adv 2 (f' := (40, [(0, .retAddr 0), (1, .ref 0), (2, .ref 69), (3, .ref 86), (4, .int (nI i))], [.int ((xs i) &&& 63)])) (h' := zH v w t) rfl ?_
  rw [show (xs i) &&& 63 = 25 from hc]
  refine zx.adv 6 (f' := (1007, [(0, .retAddr 0), (1, .ref 0), (2, .ref 69), (3, .ref 86), (4, .int (nI i))], [.int ((nI i) + 1), .retAddr 0, .ref 0])) (h' := zH v w t) rfl ?_
  rw [show (nI i) + 1 = nI (i + 1) from nI_add i 1]
  refine zx.ob (f' := (1008, [(0, .retAddr 0), (1, .ref 0), (2, .ref 69), (3, .ref 86), (4, .int (nI i))], [.int (xs (nI (i + 1)).toNatClampNeg), .ref 0])) (h' := zH v w t) rfl (zk_inN (show (i + 1) < Ls by omega) (by omega)) ?_
  rw [nI_clamp (show (i + 1) < 2 ^ 31 by omega)]
  refine zx.adv 4 (f' := (1013, [(0, .retAddr 0), (1, .ref 0), (2, .ref 69), (3, .ref 86), (4, .int (nI i))], [.int ((nI i) + 2), .retAddr 0, .int (xs (i + 1)), .ref 0])) (h' := zH v w t) rfl ?_
  rw [show (nI i) + 2 = nI (i + 2) from nI_add i 2]
  refine zx.ob (f' := (1014, [(0, .retAddr 0), (1, .ref 0), (2, .ref 69), (3, .ref 86), (4, .int (nI i))], [.int (xs (nI (i + 2)).toNatClampNeg), .int (xs (i + 1)), .ref 0])) (h' := zH v w t) rfl (zk_inN (show (i + 2) < Ls by omega) (by omega)) ?_
  rw [nI_clamp (show (i + 2) < 2 ^ 31 by omega)]
  skip
  · obtain ⟨a, v1, w1, v2, w2, h1, h2, hj⟩ := (zT_besides (Ls := Ls) (xs := xs) (t := t) h (xs (i + 1)) (xs (i + 2))).i rfl rfl (Or.inl rfl)
    refine zx.cl (v := some (.int a)) (h' := zH v1 w1 t) rfl h1 ?_
    show zx zk_mt zk_ex Ls xs zm_311 (1017, [(0, .retAddr 0), (1, .ref 0), (2, .ref 69), (3, .ref 86), (4, .int (nI i))], [.int a]) (zH v1 w1 t) _
    refine zx.adv 5 (f' := (1023, [(0, .retAddr 0), (1, .ref 0), (2, .ref 69), (3, .ref 86), (4, .int (nI i))], [.int ((nI i) + 1), .retAddr 0, .ref 69, .int a])) (h' := zH v1 w1 t) rfl ?_
    rw [show (nI i) + 1 = nI (i + 1) from nI_add i 1]
    refine zx.ob (f' := (1024, [(0, .retAddr 0), (1, .ref 0), (2, .ref 69), (3, .ref 86), (4, .int (nI i))], [.int (xs (nI (i + 1)).toNatClampNeg), .ref 69, .int a])) (h' := zH v1 w1 t) rfl (zk_inN (show (i + 1) < Ls by omega) (by omega)) ?_
    rw [nI_clamp (show (i + 1) < 2 ^ 31 by omega)]
    refine zx.adv 4 (f' := (1029, [(0, .retAddr 0), (1, .ref 0), (2, .ref 69), (3, .ref 86), (4, .int (nI i))], [.int ((nI i) + 2), .retAddr 0, .int (xs (i + 1)), .ref 69, .int a])) (h' := zH v1 w1 t) rfl ?_
    rw [show (nI i) + 2 = nI (i + 2) from nI_add i 2]
    refine zx.ob (f' := (1030, [(0, .retAddr 0), (1, .ref 0), (2, .ref 69), (3, .ref 86), (4, .int (nI i))], [.int (xs (nI (i + 2)).toNatClampNeg), .int (xs (i + 1)), .ref 69, .int a])) (h' := zH v1 w1 t) rfl (zk_inN (show (i + 2) < Ls by omega) (by omega)) ?_
    rw [nI_clamp (show (i + 2) < 2 ^ 31 by omega)]
    refine zx.cl (v := some (.int a)) (h' := zH v2 w2 t) rfl h2 ?_
    show zx zk_mt zk_ex Ls xs zm_311 (1033, [(0, .retAddr 0), (1, .ref 0), (2, .ref 69), (3, .ref 86), (4, .int (nI i))], [.int a, .int a]) (zH v2 w2 t) _
    refine zx.br (f1 := (1927, [(0, .retAddr 0), (1, .ref 0), (2, .ref 69), (3, .ref 86), (4, .int (nI i))], [])) (f2 := (1036, [(0, .retAddr 0), (1, .ref 0), (2, .ref 69), (3, .ref 86), (4, .int (nI i))], [])) rfl (fun c2 => ?_) (fun c2 => absurd rfl (of_decide_eq_false c2))
    refine zx.adv 1 (f' := (1930, [(0, .retAddr 0), (1, .ref 0), (2, .ref 69), (3, .ref 86), (4, .int ((nI i) + 6))], [])) (h' := zH v2 w2 t) rfl ?_
    rw [show (nI i) + 6 = nI (i + 6) from nI_add i 6]
    refine zx.adv 1 (f' := (23, [(0, .retAddr 0), (1, .ref 0), (2, .ref 69), (3, .ref 86), (4, .int (nI (i + 6)))], [])) (h' := zH v2 w2 t) rfl ?_
    exact hQ v2 w2 t (by omega) (by omega) hj
theorem zlc_26 {Q : Option Value × zk_H → Prop} {i : Nat} (hL : Ls ≤ 3072) (hi : i + 6 ≤ Ls) (h : zJ v w) (hc : xs i &&& 63 = nI 26) (hQ : ∀ v2 w2 t2, t2.length ≤ t.length + 1 → zk_sl t2 ≤ zk_sl t + 6 → zJ v2 w2 → zx zk_mt zk_ex Ls xs zm_311 (23, [(0, .retAddr 0), (1, .ref 0), (2, .ref 69), (3, .ref 86), (4, .int (nI (i + 6)))], []) (zH v2 w2 t2) Q) : zx zk_mt zk_ex Ls xs zm_311 (23, [(0, .retAddr 0), (1, .ref 0), (2, .ref 69), (3, .ref 86), (4, .int (nI i))], []) (zH v w t) Q := by
  refine zx.adv 5 (f' := (30, [(0, .retAddr 0), (1, .ref 0), (2, .ref 69), (3, .ref 86), (4, .int (nI i))], [.int ((Int32.ofNat Ls) - 6), .int (nI i)])) (h' := zH v w t) rfl ?_
  refine zx.br (f1 := (1933, [(0, .retAddr 0), (1, .ref 0), (2, .ref 69), (3, .ref 86), (4, .int (nI i))], [])) (f2 := (33, [(0, .retAddr 0), (1, .ref 0), (2, .ref 69), (3, .ref 86), (4, .int (nI i))], [])) rfl (fun c1 => absurd (of_decide_eq_true c1) (zl_cmp0 hL (by omega) hi)) (fun c1 => ?_)
  refine zx.adv 2 (f' := (36, [(0, .retAddr 0), (1, .ref 0), (2, .ref 69), (3, .ref 86), (4, .int (nI i))], [.int (nI i), .retAddr 0])) (h' := zH v w t) rfl ?_
  refine zx.ob (f' := (37, [(0, .retAddr 0), (1, .ref 0), (2, .ref 69), (3, .ref 86), (4, .int (nI i))], [.int (xs (nI i).toNatClampNeg)])) (h' := zH v w t) rfl (zk_inN (show i < Ls by omega) (by omega)) ?_
  rw [nI_clamp (show i < 2 ^ 31 by omega)]
  refine zx.adv 2 (f' := (40, [(0, .retAddr 0), (1, .ref 0), (2, .ref 69), (3, .ref 86), (4, .int (nI i))], [.int ((xs i) &&& 63)])) (h' := zH v w t) rfl ?_
  rw [show (xs i) &&& 63 = 26 from hc]
  refine zx.adv 6 (f' := (1044, [(0, .retAddr 0), (1, .ref 0), (2, .ref 69), (3, .ref 86), (4, .int (nI i))], [.int ((nI i) + 1), .retAddr 0, .ref 0])) (h' := zH v w t) rfl ?_
  rw [show (nI i) + 1 = nI (i + 1) from nI_add i 1]
  refine zx.ob (f' := (1045, [(0, .retAddr 0), (1, .ref 0), (2, .ref 69), (3, .ref 86), (4, .int (nI i))], [.int (xs (nI (i + 1)).toNatClampNeg), .ref 0])) (h' := zH v w t) rfl (zk_inN (show (i + 1) < Ls by omega) (by omega)) ?_
  rw [nI_clamp (show (i + 1) < 2 ^ 31 by omega)]
  skip
  · obtain ⟨a, v1, w1, v2, w2, h1, h2, hj⟩ := (zT_vain (Ls := Ls) (xs := xs) (t := t) h (xs (i + 1))).i rfl rfl (Or.inl rfl)
    refine zx.cl (v := some (.int a)) (h' := zH v1 w1 t) rfl h1 ?_
    show zx zk_mt zk_ex Ls xs zm_311 (1048, [(0, .retAddr 0), (1, .ref 0), (2, .ref 69), (3, .ref 86), (4, .int (nI i))], [.int a]) (zH v1 w1 t) _
    refine zx.adv 5 (f' := (1054, [(0, .retAddr 0), (1, .ref 0), (2, .ref 69), (3, .ref 86), (4, .int (nI i))], [.int ((nI i) + 1), .retAddr 0, .ref 69, .int a])) (h' := zH v1 w1 t) rfl ?_
    rw [show (nI i) + 1 = nI (i + 1) from nI_add i 1]
    refine zx.ob (f' := (1055, [(0, .retAddr 0), (1, .ref 0), (2, .ref 69), (3, .ref 86), (4, .int (nI i))], [.int (xs (nI (i + 1)).toNatClampNeg), .ref 69, .int a])) (h' := zH v1 w1 t) rfl (zk_inN (show (i + 1) < Ls by omega) (by omega)) ?_
    rw [nI_clamp (show (i + 1) < 2 ^ 31 by omega)]
    refine zx.cl (v := some (.int a)) (h' := zH v2 w2 t) rfl h2 ?_
    show zx zk_mt zk_ex Ls xs zm_311 (1058, [(0, .retAddr 0), (1, .ref 0), (2, .ref 69), (3, .ref 86), (4, .int (nI i))], [.int a, .int a]) (zH v2 w2 t) _
    refine zx.br (f1 := (1927, [(0, .retAddr 0), (1, .ref 0), (2, .ref 69), (3, .ref 86), (4, .int (nI i))], [])) (f2 := (1061, [(0, .retAddr 0), (1, .ref 0), (2, .ref 69), (3, .ref 86), (4, .int (nI i))], [])) rfl (fun c2 => ?_) (fun c2 => absurd rfl (of_decide_eq_false c2))
    refine zx.adv 1 (f' := (1930, [(0, .retAddr 0), (1, .ref 0), (2, .ref 69), (3, .ref 86), (4, .int ((nI i) + 6))], [])) (h' := zH v2 w2 t) rfl ?_
    rw [show (nI i) + 6 = nI (i + 6) from nI_add i 6]
    refine zx.adv 1 (f' := (23, [(0, .retAddr 0), (1, .ref 0), (2, .ref 69), (3, .ref 86), (4, .int (nI (i + 6)))], [])) (h' := zH v2 w2 t) rfl ?_
    exact hQ v2 w2 t (by omega) (by omega) hj
theorem zlc_27 {Q : Option Value × zk_H → Prop} {i : Nat} (hL : Ls ≤ 3072) (hi : i + 6 ≤ Ls) (h : zJ v w) (hc : xs i &&& 63 = nI 27) (hQ : ∀ v2 w2 t2, t2.length ≤ t.length + 1 → zk_sl t2 ≤ zk_sl t + 6 → zJ v2 w2 → zx zk_mt zk_ex Ls xs zm_311 (23, [(0, .retAddr 0), (1, .ref 0), (2, .ref 69), (3, .ref 86), (4, .int (nI (i + 6)))], []) (zH v2 w2 t2) Q) : zx zk_mt zk_ex Ls xs zm_311 (23, [(0, .retAddr 0), (1, .ref 0), (2, .ref 69), (3, .ref 86), (4, .int (nI i))], []) (zH v w t) Q := by
  refine zx.adv 5 (f' := (30, [(0, .retAddr 0), (1, .ref 0), (2, .ref 69), (3, .ref 86), (4, .int (nI i))], [.int ((Int32.ofNat Ls) - 6), .int (nI i)])) (h' := zH v w t) rfl ?_
  refine zx.br (f1 := (1933, [(0, .retAddr 0), (1, .ref 0), (2, .ref 69), (3, .ref 86), (4, .int (nI i))], [])) (f2 := (33, [(0, .retAddr 0), (1, .ref 0), (2, .ref 69), (3, .ref 86), (4, .int (nI i))], [])) rfl (fun c1 => absurd (of_decide_eq_true c1) (zl_cmp0 hL (by omega) hi)) (fun c1 => ?_)
  refine zx.adv 2 (f' := (36, [(0, .retAddr 0), (1, .ref 0), (2, .ref 69), (3, .ref 86), (4, .int (nI i))], [.int (nI i), .retAddr 0])) (h' := zH v w t) rfl ?_
  refine zx.ob (f' := (37, [(0, .retAddr 0), (1, .ref 0), (2, .ref 69), (3, .ref 86), (4, .int (nI i))], [.int (xs (nI i).toNatClampNeg)])) (h' := zH v w t) rfl (zk_inN (show i < Ls by omega) (by omega)) ?_
  rw [nI_clamp (show i < 2 ^ 31 by omega)]
  refine zx.adv 2 (f' := (40, [(0, .retAddr 0), (1, .ref 0), (2, .ref 69), (3, .ref 86), (4, .int (nI i))], [.int ((xs i) &&& 63)])) (h' := zH v w t) rfl ?_
  rw [show (xs i) &&& 63 = 27 from hc]
  refine zx.adv 2 (f' := (1064, [(0, .retAddr 0), (1, .ref 0), (2, .ref 69), (3, .ref 86), (4, .int (nI i))], [.ref 0])) (h' := zH v w t) rfl ?_
  skip
  · obtain ⟨a, v1, w1, v2, w2, h1, h2, hj⟩ := (zT_open (Ls := Ls) (xs := xs) (t := t) h ).i rfl rfl (Or.inl rfl)
    refine zx.cl (v := some (.int a)) (h' := zH v1 w1 t) rfl h1 ?_
    show zx zk_mt zk_ex Ls xs zm_311 (1067, [(0, .retAddr 0), (1, .ref 0), (2, .ref 69), (3, .ref 86), (4, .int (nI i))], [.int a]) (zH v1 w1 t) _
    refine zx.adv 1 (f' := (1068, [(0, .retAddr 0), (1, .ref 0), (2, .ref 69), (3, .ref 86), (4, .int (nI i))], [.ref 69, .int a])) (h' := zH v1 w1 t) rfl ?_
    refine zx.cl (v := some (.int a)) (h' := zH v2 w2 t) rfl h2 ?_
    show zx zk_mt zk_ex Ls xs zm_311 (1071, [(0, .retAddr 0), (1, .ref 0), (2, .ref 69), (3, .ref 86), (4, .int (nI i))], [.int a, .int a]) (zH v2 w2 t) _
    refine zx.br (f1 := (1927, [(0, .retAddr 0), (1, .ref 0), (2, .ref 69), (3, .ref 86), (4, .int (nI i))], [])) (f2 := (1074, [(0, .retAddr 0), (1, .ref 0), (2, .ref 69), (3, .ref 86), (4, .int (nI i))], [])) rfl (fun c2 => ?_) (fun c2 => absurd rfl (of_decide_eq_false c2))
    refine zx.adv 1 (f' := (1930, [(0, .retAddr 0), (1, .ref 0), (2, .ref 69), (3, .ref 86), (4, .int ((nI i) + 6))], [])) (h' := zH v2 w2 t) rfl ?_
    rw [show (nI i) + 6 = nI (i + 6) from nI_add i 6]
    refine zx.adv 1 (f' := (23, [(0, .retAddr 0), (1, .ref 0), (2, .ref 69), (3, .ref 86), (4, .int (nI (i + 6)))], [])) (h' := zH v2 w2 t) rfl ?_
    exact hQ v2 w2 t (by omega) (by omega) hj
theorem zlc_28 {Q : Option Value × zk_H → Prop} {i : Nat} (hL : Ls ≤ 3072) (hi : i + 6 ≤ Ls) (h : zJ v w) (hc : xs i &&& 63 = nI 28) (hQ : ∀ v2 w2 t2, t2.length ≤ t.length + 1 → zk_sl t2 ≤ zk_sl t + 6 → zJ v2 w2 → zx zk_mt zk_ex Ls xs zm_311 (23, [(0, .retAddr 0), (1, .ref 0), (2, .ref 69), (3, .ref 86), (4, .int (nI (i + 6)))], []) (zH v2 w2 t2) Q) : zx zk_mt zk_ex Ls xs zm_311 (23, [(0, .retAddr 0), (1, .ref 0), (2, .ref 69), (3, .ref 86), (4, .int (nI i))], []) (zH v w t) Q := by
  refine zx.adv 5 (f' := (30, [(0, .retAddr 0), (1, .ref 0), (2, .ref 69), (3, .ref 86), (4, .int (nI i))], [.int ((Int32.ofNat Ls) - 6), .int (nI i)])) (h' := zH v w t) rfl ?_
  refine zx.br (f1 := (1933, [(0, .retAddr 0), (1, .ref 0), (2, .ref 69), (3, .ref 86), (4, .int (nI i))], [])) (f2 := (33, [(0, .retAddr 0), (1, .ref 0), (2, .ref 69), (3, .ref 86), (4, .int (nI i))], [])) rfl (fun c1 => absurd (of_decide_eq_true c1) (zl_cmp0 hL (by omega) hi)) (fun c1 => ?_)
  refine zx.adv 2 (f' := (36, [(0, .retAddr 0), (1, .ref 0), (2, .ref 69), (3, .ref 86), (4, .int (nI i))], [.int (nI i), .retAddr 0])) (h' := zH v w t) rfl ?_
  refine zx.ob (f' := (37, [(0, .retAddr 0), (1, .ref 0), (2, .ref 69), (3, .ref 86), (4, .int (nI i))], [.int (xs (nI i).toNatClampNeg)])) (h' := zH v w t) rfl (zk_inN (show i < Ls by omega) (by omega)) ?_
  rw [nI_clamp (show i < 2 ^ 31 by omega)]
  refine zx.adv 2 (f' := (40, [(0, .retAddr 0), (1, .ref 0), (2, .ref 69), (3, .ref 86), (4, .int (nI i))], [.int ((xs i) &&& 63)])) (h' := zH v w t) rfl ?_
  rw [show (xs i) &&& 63 = 28 from hc]
  refine zx.adv 2 (f' := (1077, [(0, .retAddr 0), (1, .ref 0), (2, .ref 69), (3, .ref 86), (4, .int (nI i))], [.ref 0])) (h' := zH v w t) rfl ?_
  skip
  · obtain ⟨a, v1, w1, v2, w2, h1, h2, hj⟩ := (zT_fits (Ls := Ls) (xs := xs) (t := t) h ).i rfl rfl (Or.inl rfl)
    refine zx.cl (v := some (.int a)) (h' := zH v1 w1 t) rfl h1 ?_
    show zx zk_mt zk_ex Ls xs zm_311 (1080, [(0, .retAddr 0), (1, .ref 0), (2, .ref 69), (3, .ref 86), (4, .int (nI i))], [.int a]) (zH v1 w1 t) _
    refine zx.adv 1 (f' := (1081, [(0, .retAddr 0), (1, .ref 0), (2, .ref 69), (3, .ref 86), (4, .int (nI i))], [.ref 69, .int a])) (h' := zH v1 w1 t) rfl ?_
    refine zx.cl (v := some (.int a)) (h' := zH v2 w2 t) rfl h2 ?_
    show zx zk_mt zk_ex Ls xs zm_311 (1084, [(0, .retAddr 0), (1, .ref 0), (2, .ref 69), (3, .ref 86), (4, .int (nI i))], [.int a, .int a]) (zH v2 w2 t) _
    refine zx.br (f1 := (1927, [(0, .retAddr 0), (1, .ref 0), (2, .ref 69), (3, .ref 86), (4, .int (nI i))], [])) (f2 := (1087, [(0, .retAddr 0), (1, .ref 0), (2, .ref 69), (3, .ref 86), (4, .int (nI i))], [])) rfl (fun c2 => ?_) (fun c2 => absurd rfl (of_decide_eq_false c2))
    refine zx.adv 1 (f' := (1930, [(0, .retAddr 0), (1, .ref 0), (2, .ref 69), (3, .ref 86), (4, .int ((nI i) + 6))], [])) (h' := zH v2 w2 t) rfl ?_
    rw [show (nI i) + 6 = nI (i + 6) from nI_add i 6]
    refine zx.adv 1 (f' := (23, [(0, .retAddr 0), (1, .ref 0), (2, .ref 69), (3, .ref 86), (4, .int (nI (i + 6)))], [])) (h' := zH v2 w2 t) rfl ?_
    exact hQ v2 w2 t (by omega) (by omega) hj
theorem zlc_29 {Q : Option Value × zk_H → Prop} {i : Nat} (hL : Ls ≤ 3072) (hi : i + 6 ≤ Ls) (h : zJ v w) (hc : xs i &&& 63 = nI 29) (hQ : ∀ v2 w2 t2, t2.length ≤ t.length + 1 → zk_sl t2 ≤ zk_sl t + 6 → zJ v2 w2 → zx zk_mt zk_ex Ls xs zm_311 (23, [(0, .retAddr 0), (1, .ref 0), (2, .ref 69), (3, .ref 86), (4, .int (nI (i + 6)))], []) (zH v2 w2 t2) Q) : zx zk_mt zk_ex Ls xs zm_311 (23, [(0, .retAddr 0), (1, .ref 0), (2, .ref 69), (3, .ref 86), (4, .int (nI i))], []) (zH v w t) Q := by
  refine zx.adv 5 (f' := (30, [(0, .retAddr 0), (1, .ref 0), (2, .ref 69), (3, .ref 86), (4, .int (nI i))], [.int ((Int32.ofNat Ls) - 6), .int (nI i)])) (h' := zH v w t) rfl ?_
  refine zx.br (f1 := (1933, [(0, .retAddr 0), (1, .ref 0), (2, .ref 69), (3, .ref 86), (4, .int (nI i))], [])) (f2 := (33, [(0, .retAddr 0), (1, .ref 0), (2, .ref 69), (3, .ref 86), (4, .int (nI i))], [])) rfl (fun c1 => absurd (of_decide_eq_true c1) (zl_cmp0 hL (by omega) hi)) (fun c1 => ?_)
  refine zx.adv 2 (f' := (36, [(0, .retAddr 0), (1, .ref 0), (2, .ref 69), (3, .ref 86), (4, .int (nI i))], [.int (nI i), .retAddr 0])) (h' := zH v w t) rfl ?_
  refine zx.ob (f' := (37, [(0, .retAddr 0), (1, .ref 0), (2, .ref 69), (3, .ref 86), (4, .int (nI i))], [.int (xs (nI i).toNatClampNeg)])) (h' := zH v w t) rfl (zk_inN (show i < Ls by omega) (by omega)) ?_
  rw [nI_clamp (show i < 2 ^ 31 by omega)]
  refine zx.adv 2 (f' := (40, [(0, .retAddr 0), (1, .ref 0), (2, .ref 69), (3, .ref 86), (4, .int (nI i))], [.int ((xs i) &&& 63)])) (h' := zH v w t) rfl ?_
  rw [show (xs i) &&& 63 = 29 from hc]
  refine zx.adv 6 (f' := (1095, [(0, .retAddr 0), (1, .ref 0), (2, .ref 69), (3, .ref 86), (4, .int (nI i))], [.int ((nI i) + 1), .retAddr 0, .ref 0])) (h' := zH v w t) rfl ?_
  rw [show (nI i) + 1 = nI (i + 1) from nI_add i 1]
  refine zx.ob (f' := (1096, [(0, .retAddr 0), (1, .ref 0), (2, .ref 69), (3, .ref 86), (4, .int (nI i))], [.int (xs (nI (i + 1)).toNatClampNeg), .ref 0])) (h' := zH v w t) rfl (zk_inN (show (i + 1) < Ls by omega) (by omega)) ?_
  rw [nI_clamp (show (i + 1) < 2 ^ 31 by omega)]
  skip
  · obtain ⟨a, v1, w1, v2, w2, h1, h2, hj⟩ := (zT_fitAt (Ls := Ls) (xs := xs) (t := t) h (xs (i + 1))).i rfl rfl (Or.inl rfl)
    refine zx.cl (v := some (.int a)) (h' := zH v1 w1 t) rfl h1 ?_
    show zx zk_mt zk_ex Ls xs zm_311 (1099, [(0, .retAddr 0), (1, .ref 0), (2, .ref 69), (3, .ref 86), (4, .int (nI i))], [.int a]) (zH v1 w1 t) _
    refine zx.adv 5 (f' := (1105, [(0, .retAddr 0), (1, .ref 0), (2, .ref 69), (3, .ref 86), (4, .int (nI i))], [.int ((nI i) + 1), .retAddr 0, .ref 69, .int a])) (h' := zH v1 w1 t) rfl ?_
    rw [show (nI i) + 1 = nI (i + 1) from nI_add i 1]
    refine zx.ob (f' := (1106, [(0, .retAddr 0), (1, .ref 0), (2, .ref 69), (3, .ref 86), (4, .int (nI i))], [.int (xs (nI (i + 1)).toNatClampNeg), .ref 69, .int a])) (h' := zH v1 w1 t) rfl (zk_inN (show (i + 1) < Ls by omega) (by omega)) ?_
    rw [nI_clamp (show (i + 1) < 2 ^ 31 by omega)]
    refine zx.cl (v := some (.int a)) (h' := zH v2 w2 t) rfl h2 ?_
    show zx zk_mt zk_ex Ls xs zm_311 (1109, [(0, .retAddr 0), (1, .ref 0), (2, .ref 69), (3, .ref 86), (4, .int (nI i))], [.int a, .int a]) (zH v2 w2 t) _
    refine zx.br (f1 := (1927, [(0, .retAddr 0), (1, .ref 0), (2, .ref 69), (3, .ref 86), (4, .int (nI i))], [])) (f2 := (1112, [(0, .retAddr 0), (1, .ref 0), (2, .ref 69), (3, .ref 86), (4, .int (nI i))], [])) rfl (fun c2 => ?_) (fun c2 => absurd rfl (of_decide_eq_false c2))
    refine zx.adv 1 (f' := (1930, [(0, .retAddr 0), (1, .ref 0), (2, .ref 69), (3, .ref 86), (4, .int ((nI i) + 6))], [])) (h' := zH v2 w2 t) rfl ?_
    rw [show (nI i) + 6 = nI (i + 6) from nI_add i 6]
    refine zx.adv 1 (f' := (23, [(0, .retAddr 0), (1, .ref 0), (2, .ref 69), (3, .ref 86), (4, .int (nI (i + 6)))], [])) (h' := zH v2 w2 t) rfl ?_
    exact hQ v2 w2 t (by omega) (by omega) hj
theorem zlc_30 {Q : Option Value × zk_H → Prop} {i : Nat} (hL : Ls ≤ 3072) (hi : i + 6 ≤ Ls) (h : zJ v w) (hc : xs i &&& 63 = nI 30) (hQ : ∀ v2 w2 t2, t2.length ≤ t.length + 1 → zk_sl t2 ≤ zk_sl t + 6 → zJ v2 w2 → zx zk_mt zk_ex Ls xs zm_311 (23, [(0, .retAddr 0), (1, .ref 0), (2, .ref 69), (3, .ref 86), (4, .int (nI (i + 6)))], []) (zH v2 w2 t2) Q) : zx zk_mt zk_ex Ls xs zm_311 (23, [(0, .retAddr 0), (1, .ref 0), (2, .ref 69), (3, .ref 86), (4, .int (nI i))], []) (zH v w t) Q := by
  refine zx.adv 5 (f' := (30, [(0, .retAddr 0), (1, .ref 0), (2, .ref 69), (3, .ref 86), (4, .int (nI i))], [.int ((Int32.ofNat Ls) - 6), .int (nI i)])) (h' := zH v w t) rfl ?_
  refine zx.br (f1 := (1933, [(0, .retAddr 0), (1, .ref 0), (2, .ref 69), (3, .ref 86), (4, .int (nI i))], [])) (f2 := (33, [(0, .retAddr 0), (1, .ref 0), (2, .ref 69), (3, .ref 86), (4, .int (nI i))], [])) rfl (fun c1 => absurd (of_decide_eq_true c1) (zl_cmp0 hL (by omega) hi)) (fun c1 => ?_)
  refine zx.adv 2 (f' := (36, [(0, .retAddr 0), (1, .ref 0), (2, .ref 69), (3, .ref 86), (4, .int (nI i))], [.int (nI i), .retAddr 0])) (h' := zH v w t) rfl ?_
  refine zx.ob (f' := (37, [(0, .retAddr 0), (1, .ref 0), (2, .ref 69), (3, .ref 86), (4, .int (nI i))], [.int (xs (nI i).toNatClampNeg)])) (h' := zH v w t) rfl (zk_inN (show i < Ls by omega) (by omega)) ?_
  rw [nI_clamp (show i < 2 ^ 31 by omega)]
  refine zx.adv 2 (f' := (40, [(0, .retAddr 0), (1, .ref 0), (2, .ref 69), (3, .ref 86), (4, .int (nI i))], [.int ((xs i) &&& 63)])) (h' := zH v w t) rfl ?_
  rw [show (xs i) &&& 63 = 30 from hc]
  refine zx.adv 2 (f' := (1115, [(0, .retAddr 0), (1, .ref 0), (2, .ref 69), (3, .ref 86), (4, .int (nI i))], [.ref 0])) (h' := zH v w t) rfl ?_
  skip
  · obtain ⟨a, v1, w1, v2, w2, h1, h2, hj⟩ := (zT_could (Ls := Ls) (xs := xs) (t := t) h ).i rfl rfl (Or.inl rfl)
    refine zx.cl (v := some (.int a)) (h' := zH v1 w1 t) rfl h1 ?_
    show zx zk_mt zk_ex Ls xs zm_311 (1118, [(0, .retAddr 0), (1, .ref 0), (2, .ref 69), (3, .ref 86), (4, .int (nI i))], [.int a]) (zH v1 w1 t) _
    refine zx.adv 1 (f' := (1119, [(0, .retAddr 0), (1, .ref 0), (2, .ref 69), (3, .ref 86), (4, .int (nI i))], [.ref 69, .int a])) (h' := zH v1 w1 t) rfl ?_
    refine zx.cl (v := some (.int a)) (h' := zH v2 w2 t) rfl h2 ?_
    show zx zk_mt zk_ex Ls xs zm_311 (1122, [(0, .retAddr 0), (1, .ref 0), (2, .ref 69), (3, .ref 86), (4, .int (nI i))], [.int a, .int a]) (zH v2 w2 t) _
    refine zx.br (f1 := (1927, [(0, .retAddr 0), (1, .ref 0), (2, .ref 69), (3, .ref 86), (4, .int (nI i))], [])) (f2 := (1125, [(0, .retAddr 0), (1, .ref 0), (2, .ref 69), (3, .ref 86), (4, .int (nI i))], [])) rfl (fun c2 => ?_) (fun c2 => absurd rfl (of_decide_eq_false c2))
    refine zx.adv 1 (f' := (1930, [(0, .retAddr 0), (1, .ref 0), (2, .ref 69), (3, .ref 86), (4, .int ((nI i) + 6))], [])) (h' := zH v2 w2 t) rfl ?_
    rw [show (nI i) + 6 = nI (i + 6) from nI_add i 6]
    refine zx.adv 1 (f' := (23, [(0, .retAddr 0), (1, .ref 0), (2, .ref 69), (3, .ref 86), (4, .int (nI (i + 6)))], [])) (h' := zH v2 w2 t) rfl ?_
    exact hQ v2 w2 t (by omega) (by omega) hj
theorem zlc_31 {Q : Option Value × zk_H → Prop} {i : Nat} (hL : Ls ≤ 3072) (hi : i + 6 ≤ Ls) (h : zJ v w) (hc : xs i &&& 63 = nI 31) (hQ : ∀ v2 w2 t2, t2.length ≤ t.length + 1 → zk_sl t2 ≤ zk_sl t + 6 → zJ v2 w2 → zx zk_mt zk_ex Ls xs zm_311 (23, [(0, .retAddr 0), (1, .ref 0), (2, .ref 69), (3, .ref 86), (4, .int (nI (i + 6)))], []) (zH v2 w2 t2) Q) : zx zk_mt zk_ex Ls xs zm_311 (23, [(0, .retAddr 0), (1, .ref 0), (2, .ref 69), (3, .ref 86), (4, .int (nI i))], []) (zH v w t) Q := by
  refine zx.adv 5 (f' := (30, [(0, .retAddr 0), (1, .ref 0), (2, .ref 69), (3, .ref 86), (4, .int (nI i))], [.int ((Int32.ofNat Ls) - 6), .int (nI i)])) (h' := zH v w t) rfl ?_
  refine zx.br (f1 := (1933, [(0, .retAddr 0), (1, .ref 0), (2, .ref 69), (3, .ref 86), (4, .int (nI i))], [])) (f2 := (33, [(0, .retAddr 0), (1, .ref 0), (2, .ref 69), (3, .ref 86), (4, .int (nI i))], [])) rfl (fun c1 => absurd (of_decide_eq_true c1) (zl_cmp0 hL (by omega) hi)) (fun c1 => ?_)
  refine zx.adv 2 (f' := (36, [(0, .retAddr 0), (1, .ref 0), (2, .ref 69), (3, .ref 86), (4, .int (nI i))], [.int (nI i), .retAddr 0])) (h' := zH v w t) rfl ?_
  refine zx.ob (f' := (37, [(0, .retAddr 0), (1, .ref 0), (2, .ref 69), (3, .ref 86), (4, .int (nI i))], [.int (xs (nI i).toNatClampNeg)])) (h' := zH v w t) rfl (zk_inN (show i < Ls by omega) (by omega)) ?_
  rw [nI_clamp (show i < 2 ^ 31 by omega)]
  refine zx.adv 2 (f' := (40, [(0, .retAddr 0), (1, .ref 0), (2, .ref 69), (3, .ref 86), (4, .int (nI i))], [.int ((xs i) &&& 63)])) (h' := zH v w t) rfl ?_
  rw [show (xs i) &&& 63 = 31 from hc]
  refine zx.adv 2 (f' := (1128, [(0, .retAddr 0), (1, .ref 0), (2, .ref 69), (3, .ref 86), (4, .int (nI i))], [.ref 0])) (h' := zH v w t) rfl ?_
  skip
  · obtain ⟨a, v1, w1, v2, w2, h1, h2, hj⟩ := (zT_surely (Ls := Ls) (xs := xs) (t := t) h ).i rfl rfl (Or.inl rfl)
    refine zx.cl (v := some (.int a)) (h' := zH v1 w1 t) rfl h1 ?_
    show zx zk_mt zk_ex Ls xs zm_311 (1131, [(0, .retAddr 0), (1, .ref 0), (2, .ref 69), (3, .ref 86), (4, .int (nI i))], [.int a]) (zH v1 w1 t) _
    refine zx.adv 1 (f' := (1132, [(0, .retAddr 0), (1, .ref 0), (2, .ref 69), (3, .ref 86), (4, .int (nI i))], [.ref 69, .int a])) (h' := zH v1 w1 t) rfl ?_
    refine zx.cl (v := some (.int a)) (h' := zH v2 w2 t) rfl h2 ?_
    show zx zk_mt zk_ex Ls xs zm_311 (1135, [(0, .retAddr 0), (1, .ref 0), (2, .ref 69), (3, .ref 86), (4, .int (nI i))], [.int a, .int a]) (zH v2 w2 t) _
    refine zx.br (f1 := (1927, [(0, .retAddr 0), (1, .ref 0), (2, .ref 69), (3, .ref 86), (4, .int (nI i))], [])) (f2 := (1138, [(0, .retAddr 0), (1, .ref 0), (2, .ref 69), (3, .ref 86), (4, .int (nI i))], [])) rfl (fun c2 => ?_) (fun c2 => absurd rfl (of_decide_eq_false c2))
    refine zx.adv 1 (f' := (1930, [(0, .retAddr 0), (1, .ref 0), (2, .ref 69), (3, .ref 86), (4, .int ((nI i) + 6))], [])) (h' := zH v2 w2 t) rfl ?_
    rw [show (nI i) + 6 = nI (i + 6) from nI_add i 6]
    refine zx.adv 1 (f' := (23, [(0, .retAddr 0), (1, .ref 0), (2, .ref 69), (3, .ref 86), (4, .int (nI (i + 6)))], [])) (h' := zH v2 w2 t) rfl ?_
    exact hQ v2 w2 t (by omega) (by omega) hj
theorem zlc_32 {Q : Option Value × zk_H → Prop} {i : Nat} (hL : Ls ≤ 3072) (hi : i + 6 ≤ Ls) (h : zJ v w) (hc : xs i &&& 63 = nI 32) (hQ : ∀ v2 w2 t2, t2.length ≤ t.length + 1 → zk_sl t2 ≤ zk_sl t + 6 → zJ v2 w2 → zx zk_mt zk_ex Ls xs zm_311 (23, [(0, .retAddr 0), (1, .ref 0), (2, .ref 69), (3, .ref 86), (4, .int (nI (i + 6)))], []) (zH v2 w2 t2) Q) : zx zk_mt zk_ex Ls xs zm_311 (23, [(0, .retAddr 0), (1, .ref 0), (2, .ref 69), (3, .ref 86), (4, .int (nI i))], []) (zH v w t) Q := by
  refine zx.adv 5 (f' := (30, [(0, .retAddr 0), (1, .ref 0), (2, .ref 69), (3, .ref 86), (4, .int (nI i))], [.int ((Int32.ofNat Ls) - 6), .int (nI i)])) (h' := zH v w t) rfl ?_
  refine zx.br (f1 := (1933, [(0, .retAddr 0), (1, .ref 0), (2, .ref 69), (3, .ref 86), (4, .int (nI i))], [])) (f2 := (33, [(0, .retAddr 0), (1, .ref 0), (2, .ref 69), (3, .ref 86), (4, .int (nI i))], [])) rfl (fun c1 => absurd (of_decide_eq_true c1) (zl_cmp0 hL (by omega) hi)) (fun c1 => ?_)
  refine zx.adv 2 (f' := (36, [(0, .retAddr 0), (1, .ref 0), (2, .ref 69), (3, .ref 86), (4, .int (nI i))], [.int (nI i), .retAddr 0])) (h' := zH v w t) rfl ?_
  refine zx.ob (f' := (37, [(0, .retAddr 0), (1, .ref 0), (2, .ref 69), (3, .ref 86), (4, .int (nI i))], [.int (xs (nI i).toNatClampNeg)])) (h' := zH v w t) rfl (zk_inN (show i < Ls by omega) (by omega)) ?_
  rw [nI_clamp (show i < 2 ^ 31 by omega)]
  refine zx.adv 2 (f' := (40, [(0, .retAddr 0), (1, .ref 0), (2, .ref 69), (3, .ref 86), (4, .int (nI i))], [.int ((xs i) &&& 63)])) (h' := zH v w t) rfl ?_
  rw [show (xs i) &&& 63 = 32 from hc]
  refine zx.adv 2 (f' := (1141, [(0, .retAddr 0), (1, .ref 0), (2, .ref 69), (3, .ref 86), (4, .int (nI i))], [.ref 0])) (h' := zH v w t) rfl ?_
  skip
  · obtain ⟨a, v1, w1, v2, w2, h1, h2, hj⟩ := (zT_ask (Ls := Ls) (xs := xs) (t := t) h ).i rfl rfl (Or.inl rfl)
    refine zx.cl (v := some (.int a)) (h' := zH v1 w1 t) rfl h1 ?_
    show zx zk_mt zk_ex Ls xs zm_311 (1144, [(0, .retAddr 0), (1, .ref 0), (2, .ref 69), (3, .ref 86), (4, .int (nI i))], [.int a]) (zH v1 w1 t) _
    refine zx.adv 1 (f' := (1145, [(0, .retAddr 0), (1, .ref 0), (2, .ref 69), (3, .ref 86), (4, .int (nI i))], [.ref 69, .int a])) (h' := zH v1 w1 t) rfl ?_
    refine zx.cl (v := some (.int a)) (h' := zH v2 w2 t) rfl h2 ?_
    show zx zk_mt zk_ex Ls xs zm_311 (1148, [(0, .retAddr 0), (1, .ref 0), (2, .ref 69), (3, .ref 86), (4, .int (nI i))], [.int a, .int a]) (zH v2 w2 t) _
    refine zx.br (f1 := (1927, [(0, .retAddr 0), (1, .ref 0), (2, .ref 69), (3, .ref 86), (4, .int (nI i))], [])) (f2 := (1151, [(0, .retAddr 0), (1, .ref 0), (2, .ref 69), (3, .ref 86), (4, .int (nI i))], [])) rfl (fun c2 => ?_) (fun c2 => absurd rfl (of_decide_eq_false c2))
    refine zx.adv 1 (f' := (1930, [(0, .retAddr 0), (1, .ref 0), (2, .ref 69), (3, .ref 86), (4, .int ((nI i) + 6))], [])) (h' := zH v2 w2 t) rfl ?_
    rw [show (nI i) + 6 = nI (i + 6) from nI_add i 6]
    refine zx.adv 1 (f' := (23, [(0, .retAddr 0), (1, .ref 0), (2, .ref 69), (3, .ref 86), (4, .int (nI (i + 6)))], [])) (h' := zH v2 w2 t) rfl ?_
    exact hQ v2 w2 t (by omega) (by omega) hj
theorem zlc_33 {Q : Option Value × zk_H → Prop} {i : Nat} (hL : Ls ≤ 3072) (hi : i + 6 ≤ Ls) (h : zJ v w) (hc : xs i &&& 63 = nI 33) (hQ : ∀ v2 w2 t2, t2.length ≤ t.length + 1 → zk_sl t2 ≤ zk_sl t + 6 → zJ v2 w2 → zx zk_mt zk_ex Ls xs zm_311 (23, [(0, .retAddr 0), (1, .ref 0), (2, .ref 69), (3, .ref 86), (4, .int (nI (i + 6)))], []) (zH v2 w2 t2) Q) : zx zk_mt zk_ex Ls xs zm_311 (23, [(0, .retAddr 0), (1, .ref 0), (2, .ref 69), (3, .ref 86), (4, .int (nI i))], []) (zH v w t) Q := by
  refine zx.adv 5 (f' := (30, [(0, .retAddr 0), (1, .ref 0), (2, .ref 69), (3, .ref 86), (4, .int (nI i))], [.int ((Int32.ofNat Ls) - 6), .int (nI i)])) (h' := zH v w t) rfl ?_
  refine zx.br (f1 := (1933, [(0, .retAddr 0), (1, .ref 0), (2, .ref 69), (3, .ref 86), (4, .int (nI i))], [])) (f2 := (33, [(0, .retAddr 0), (1, .ref 0), (2, .ref 69), (3, .ref 86), (4, .int (nI i))], [])) rfl (fun c1 => absurd (of_decide_eq_true c1) (zl_cmp0 hL (by omega) hi)) (fun c1 => ?_)
  refine zx.adv 2 (f' := (36, [(0, .retAddr 0), (1, .ref 0), (2, .ref 69), (3, .ref 86), (4, .int (nI i))], [.int (nI i), .retAddr 0])) (h' := zH v w t) rfl ?_
  refine zx.ob (f' := (37, [(0, .retAddr 0), (1, .ref 0), (2, .ref 69), (3, .ref 86), (4, .int (nI i))], [.int (xs (nI i).toNatClampNeg)])) (h' := zH v w t) rfl (zk_inN (show i < Ls by omega) (by omega)) ?_
  rw [nI_clamp (show i < 2 ^ 31 by omega)]
  refine zx.adv 2 (f' := (40, [(0, .retAddr 0), (1, .ref 0), (2, .ref 69), (3, .ref 86), (4, .int (nI i))], [.int ((xs i) &&& 63)])) (h' := zH v w t) rfl ?_
  rw [show (xs i) &&& 63 = 33 from hc]
  refine zx.adv 2 (f' := (1154, [(0, .retAddr 0), (1, .ref 0), (2, .ref 69), (3, .ref 86), (4, .int (nI i))], [.ref 0])) (h' := zH v w t) rfl ?_
  skip
  · obtain ⟨a, v1, w1, v2, w2, h1, h2, hj⟩ := (zT_askLeaves (Ls := Ls) (xs := xs) (t := t) h ).i rfl rfl (Or.inl rfl)
    refine zx.cl (v := some (.int a)) (h' := zH v1 w1 t) rfl h1 ?_
    show zx zk_mt zk_ex Ls xs zm_311 (1157, [(0, .retAddr 0), (1, .ref 0), (2, .ref 69), (3, .ref 86), (4, .int (nI i))], [.int a]) (zH v1 w1 t) _
    refine zx.adv 1 (f' := (1158, [(0, .retAddr 0), (1, .ref 0), (2, .ref 69), (3, .ref 86), (4, .int (nI i))], [.ref 69, .int a])) (h' := zH v1 w1 t) rfl ?_
    refine zx.cl (v := some (.int a)) (h' := zH v2 w2 t) rfl h2 ?_
    show zx zk_mt zk_ex Ls xs zm_311 (1161, [(0, .retAddr 0), (1, .ref 0), (2, .ref 69), (3, .ref 86), (4, .int (nI i))], [.int a, .int a]) (zH v2 w2 t) _
    refine zx.br (f1 := (1927, [(0, .retAddr 0), (1, .ref 0), (2, .ref 69), (3, .ref 86), (4, .int (nI i))], [])) (f2 := (1164, [(0, .retAddr 0), (1, .ref 0), (2, .ref 69), (3, .ref 86), (4, .int (nI i))], [])) rfl (fun c2 => ?_) (fun c2 => absurd rfl (of_decide_eq_false c2))
    refine zx.adv 1 (f' := (1930, [(0, .retAddr 0), (1, .ref 0), (2, .ref 69), (3, .ref 86), (4, .int ((nI i) + 6))], [])) (h' := zH v2 w2 t) rfl ?_
    rw [show (nI i) + 6 = nI (i + 6) from nI_add i 6]
    refine zx.adv 1 (f' := (23, [(0, .retAddr 0), (1, .ref 0), (2, .ref 69), (3, .ref 86), (4, .int (nI (i + 6)))], [])) (h' := zH v2 w2 t) rfl ?_
    exact hQ v2 w2 t (by omega) (by omega) hj
theorem zlc_34 {Q : Option Value × zk_H → Prop} {i : Nat} (hL : Ls ≤ 3072) (hi : i + 6 ≤ Ls) (h : zJ v w) (hc : xs i &&& 63 = nI 34) (hQ : ∀ v2 w2 t2, t2.length ≤ t.length + 1 → zk_sl t2 ≤ zk_sl t + 6 → zJ v2 w2 → zx zk_mt zk_ex Ls xs zm_311 (23, [(0, .retAddr 0), (1, .ref 0), (2, .ref 69), (3, .ref 86), (4, .int (nI (i + 6)))], []) (zH v2 w2 t2) Q) : zx zk_mt zk_ex Ls xs zm_311 (23, [(0, .retAddr 0), (1, .ref 0), (2, .ref 69), (3, .ref 86), (4, .int (nI i))], []) (zH v w t) Q := by
  refine zx.adv 5 (f' := (30, [(0, .retAddr 0), (1, .ref 0), (2, .ref 69), (3, .ref 86), (4, .int (nI i))], [.int ((Int32.ofNat Ls) - 6), .int (nI i)])) (h' := zH v w t) rfl ?_
  refine zx.br (f1 := (1933, [(0, .retAddr 0), (1, .ref 0), (2, .ref 69), (3, .ref 86), (4, .int (nI i))], [])) (f2 := (33, [(0, .retAddr 0), (1, .ref 0), (2, .ref 69), (3, .ref 86), (4, .int (nI i))], [])) rfl (fun c1 => absurd (of_decide_eq_true c1) (zl_cmp0 hL (by omega) hi)) (fun c1 => ?_)
  refine zx.adv 2 (f' := (36, [(0, .retAddr 0), (1, .ref 0), (2, .ref 69), (3, .ref 86), (4, .int (nI i))], [.int (nI i), .retAddr 0])) (h' := zH v w t) rfl ?_
  refine zx.ob (f' := (37, [(0, .retAddr 0), (1, .ref 0), (2, .ref 69), (3, .ref 86), (4, .int (nI i))], [.int (xs (nI i).toNatClampNeg)])) (h' := zH v w t) rfl (zk_inN (show i < Ls by omega) (by omega)) ?_
  rw [nI_clamp (show i < 2 ^ 31 by omega)]
  refine zx.adv 2 (f' := (40, [(0, .retAddr 0), (1, .ref 0), (2, .ref 69), (3, .ref 86), (4, .int (nI i))], [.int ((xs i) &&& 63)])) (h' := zH v w t) rfl ?_
  rw [show (xs i) &&& 63 = 34 from hc]
  refine zx.adv 2 (f' := (1167, [(0, .retAddr 0), (1, .ref 0), (2, .ref 69), (3, .ref 86), (4, .int (nI i))], [.ref 0])) (h' := zH v w t) rfl ?_
  skip
  · obtain ⟨a, v1, w1, v2, w2, h1, h2, hj⟩ := (zT_judge (Ls := Ls) (xs := xs) (t := t) h ).i rfl rfl (Or.inl rfl)
    refine zx.cl (v := some (.int a)) (h' := zH v1 w1 t) rfl h1 ?_
    show zx zk_mt zk_ex Ls xs zm_311 (1170, [(0, .retAddr 0), (1, .ref 0), (2, .ref 69), (3, .ref 86), (4, .int (nI i))], [.int a]) (zH v1 w1 t) _
    refine zx.adv 1 (f' := (1171, [(0, .retAddr 0), (1, .ref 0), (2, .ref 69), (3, .ref 86), (4, .int (nI i))], [.ref 69, .int a])) (h' := zH v1 w1 t) rfl ?_
    refine zx.cl (v := some (.int a)) (h' := zH v2 w2 t) rfl h2 ?_
    show zx zk_mt zk_ex Ls xs zm_311 (1174, [(0, .retAddr 0), (1, .ref 0), (2, .ref 69), (3, .ref 86), (4, .int (nI i))], [.int a, .int a]) (zH v2 w2 t) _
    refine zx.br (f1 := (1927, [(0, .retAddr 0), (1, .ref 0), (2, .ref 69), (3, .ref 86), (4, .int (nI i))], [])) (f2 := (1177, [(0, .retAddr 0), (1, .ref 0), (2, .ref 69), (3, .ref 86), (4, .int (nI i))], [])) rfl (fun c2 => ?_) (fun c2 => absurd rfl (of_decide_eq_false c2))
    refine zx.adv 1 (f' := (1930, [(0, .retAddr 0), (1, .ref 0), (2, .ref 69), (3, .ref 86), (4, .int ((nI i) + 6))], [])) (h' := zH v2 w2 t) rfl ?_
    rw [show (nI i) + 6 = nI (i + 6) from nI_add i 6]
    refine zx.adv 1 (f' := (23, [(0, .retAddr 0), (1, .ref 0), (2, .ref 69), (3, .ref 86), (4, .int (nI (i + 6)))], [])) (h' := zH v2 w2 t) rfl ?_
    exact hQ v2 w2 t (by omega) (by omega) hj
theorem zlc_35 {Q : Option Value × zk_H → Prop} {i : Nat} (hL : Ls ≤ 3072) (hi : i + 6 ≤ Ls) (h : zJ v w) (hc : xs i &&& 63 = nI 35) (hQ : ∀ v2 w2 t2, t2.length ≤ t.length + 1 → zk_sl t2 ≤ zk_sl t + 6 → zJ v2 w2 → zx zk_mt zk_ex Ls xs zm_311 (23, [(0, .retAddr 0), (1, .ref 0), (2, .ref 69), (3, .ref 86), (4, .int (nI (i + 6)))], []) (zH v2 w2 t2) Q) : zx zk_mt zk_ex Ls xs zm_311 (23, [(0, .retAddr 0), (1, .ref 0), (2, .ref 69), (3, .ref 86), (4, .int (nI i))], []) (zH v w t) Q := by
  refine zx.adv 5 (f' := (30, [(0, .retAddr 0), (1, .ref 0), (2, .ref 69), (3, .ref 86), (4, .int (nI i))], [.int ((Int32.ofNat Ls) - 6), .int (nI i)])) (h' := zH v w t) rfl ?_
  refine zx.br (f1 := (1933, [(0, .retAddr 0), (1, .ref 0), (2, .ref 69), (3, .ref 86), (4, .int (nI i))], [])) (f2 := (33, [(0, .retAddr 0), (1, .ref 0), (2, .ref 69), (3, .ref 86), (4, .int (nI i))], [])) rfl (fun c1 => absurd (of_decide_eq_true c1) (zl_cmp0 hL (by omega) hi)) (fun c1 => ?_)
  refine zx.adv 2 (f' := (36, [(0, .retAddr 0), (1, .ref 0), (2, .ref 69), (3, .ref 86), (4, .int (nI i))], [.int (nI i), .retAddr 0])) (h' := zH v w t) rfl ?_
  refine zx.ob (f' := (37, [(0, .retAddr 0), (1, .ref 0), (2, .ref 69), (3, .ref 86), (4, .int (nI i))], [.int (xs (nI i).toNatClampNeg)])) (h' := zH v w t) rfl (zk_inN (show i < Ls by omega) (by omega)) ?_
  rw [nI_clamp (show i < 2 ^ 31 by omega)]
  refine zx.adv 2 (f' := (40, [(0, .retAddr 0), (1, .ref 0), (2, .ref 69), (3, .ref 86), (4, .int (nI i))], [.int ((xs i) &&& 63)])) (h' := zH v w t) rfl ?_
  rw [show (xs i) &&& 63 = 35 from hc]
  refine zx.adv 6 (f' := (1185, [(0, .retAddr 0), (1, .ref 0), (2, .ref 69), (3, .ref 86), (4, .int (nI i))], [.int ((nI i) + 1), .retAddr 0, .ref 0])) (h' := zH v w t) rfl ?_
  rw [show (nI i) + 1 = nI (i + 1) from nI_add i 1]
  refine zx.ob (f' := (1186, [(0, .retAddr 0), (1, .ref 0), (2, .ref 69), (3, .ref 86), (4, .int (nI i))], [.int (xs (nI (i + 1)).toNatClampNeg), .ref 0])) (h' := zH v w t) rfl (zk_inN (show (i + 1) < Ls by omega) (by omega)) ?_
  rw [nI_clamp (show (i + 1) < 2 ^ 31 by omega)]
  refine zx.adv 4 (f' := (1191, [(0, .retAddr 0), (1, .ref 0), (2, .ref 69), (3, .ref 86), (4, .int (nI i))], [.int ((nI i) + 2), .retAddr 0, .int (xs (i + 1)), .ref 0])) (h' := zH v w t) rfl ?_
  rw [show (nI i) + 2 = nI (i + 2) from nI_add i 2]
  refine zx.ob (f' := (1192, [(0, .retAddr 0), (1, .ref 0), (2, .ref 69), (3, .ref 86), (4, .int (nI i))], [.int (xs (nI (i + 2)).toNatClampNeg), .int (xs (i + 1)), .ref 0])) (h' := zH v w t) rfl (zk_inN (show (i + 2) < Ls by omega) (by omega)) ?_
  rw [nI_clamp (show (i + 2) < 2 ^ 31 by omega)]
  skip
  · obtain ⟨a, v1, w1, v2, w2, h1, h2, hj⟩ := (zT_weaves (Ls := Ls) (xs := xs) (t := t) h (xs (i + 1)) (xs (i + 2))).l rfl rfl rfl
    refine zx.cl (v := some (.long a)) (h' := zH v1 w1 t) rfl h1 ?_
    show zx zk_mt zk_ex Ls xs zm_311 (1195, [(0, .retAddr 0), (1, .ref 0), (2, .ref 69), (3, .ref 86), (4, .int (nI i))], [.long a]) (zH v1 w1 t) _
    refine zx.adv 5 (f' := (1201, [(0, .retAddr 0), (1, .ref 0), (2, .ref 69), (3, .ref 86), (4, .int (nI i))], [.int ((nI i) + 1), .retAddr 0, .ref 69, .long a])) (h' := zH v1 w1 t) rfl ?_
    rw [show (nI i) + 1 = nI (i + 1) from nI_add i 1]
    refine zx.ob (f' := (1202, [(0, .retAddr 0), (1, .ref 0), (2, .ref 69), (3, .ref 86), (4, .int (nI i))], [.int (xs (nI (i + 1)).toNatClampNeg), .ref 69, .long a])) (h' := zH v1 w1 t) rfl (zk_inN (show (i + 1) < Ls by omega) (by omega)) ?_
    rw [nI_clamp (show (i + 1) < 2 ^ 31 by omega)]
    refine zx.adv 4 (f' := (1207, [(0, .retAddr 0), (1, .ref 0), (2, .ref 69), (3, .ref 86), (4, .int (nI i))], [.int ((nI i) + 2), .retAddr 0, .int (xs (i + 1)), .ref 69, .long a])) (h' := zH v1 w1 t) rfl ?_
    rw [show (nI i) + 2 = nI (i + 2) from nI_add i 2]
    refine zx.ob (f' := (1208, [(0, .retAddr 0), (1, .ref 0), (2, .ref 69), (3, .ref 86), (4, .int (nI i))], [.int (xs (nI (i + 2)).toNatClampNeg), .int (xs (i + 1)), .ref 69, .long a])) (h' := zH v1 w1 t) rfl (zk_inN (show (i + 2) < Ls by omega) (by omega)) ?_
    rw [nI_clamp (show (i + 2) < 2 ^ 31 by omega)]
    refine zx.cl (v := some (.long a)) (h' := zH v2 w2 t) rfl h2 ?_
    show zx zk_mt zk_ex Ls xs zm_311 (1211, [(0, .retAddr 0), (1, .ref 0), (2, .ref 69), (3, .ref 86), (4, .int (nI i))], [.long a, .long a]) (zH v2 w2 t) _
    refine zx.adv 1 (f' := (1212, [(0, .retAddr 0), (1, .ref 0), (2, .ref 69), (3, .ref 86), (4, .int (nI i))], [.int (lg_cmp a a)])) (h' := zH v2 w2 t) rfl ?_
    refine zx.br (f1 := (1927, [(0, .retAddr 0), (1, .ref 0), (2, .ref 69), (3, .ref 86), (4, .int (nI i))], [])) (f2 := (1215, [(0, .retAddr 0), (1, .ref 0), (2, .ref 69), (3, .ref 86), (4, .int (nI i))], [])) rfl (fun c2 => ?_) (fun c2 => absurd (zp_cmp.mpr rfl) (of_decide_eq_false c2))
    refine zx.adv 1 (f' := (1930, [(0, .retAddr 0), (1, .ref 0), (2, .ref 69), (3, .ref 86), (4, .int ((nI i) + 6))], [])) (h' := zH v2 w2 t) rfl ?_
    rw [show (nI i) + 6 = nI (i + 6) from nI_add i 6]
    refine zx.adv 1 (f' := (23, [(0, .retAddr 0), (1, .ref 0), (2, .ref 69), (3, .ref 86), (4, .int (nI (i + 6)))], [])) (h' := zH v2 w2 t) rfl ?_
    exact hQ v2 w2 t (by omega) (by omega) hj
theorem zlc_36 {Q : Option Value × zk_H → Prop} {i : Nat} (hL : Ls ≤ 3072) (hi : i + 6 ≤ Ls) (h : zJ v w) (hc : xs i &&& 63 = nI 36) (hQ : ∀ v2 w2 t2, t2.length ≤ t.length + 1 → zk_sl t2 ≤ zk_sl t + 6 → zJ v2 w2 → zx zk_mt zk_ex Ls xs zm_311 (23, [(0, .retAddr 0), (1, .ref 0), (2, .ref 69), (3, .ref 86), (4, .int (nI (i + 6)))], []) (zH v2 w2 t2) Q) : zx zk_mt zk_ex Ls xs zm_311 (23, [(0, .retAddr 0), (1, .ref 0), (2, .ref 69), (3, .ref 86), (4, .int (nI i))], []) (zH v w t) Q := by
  refine zx.adv 5 (f' := (30, [(0, .retAddr 0), (1, .ref 0), (2, .ref 69), (3, .ref 86), (4, .int (nI i))], [.int ((Int32.ofNat Ls) - 6), .int (nI i)])) (h' := zH v w t) rfl ?_
  refine zx.br (f1 := (1933, [(0, .retAddr 0), (1, .ref 0), (2, .ref 69), (3, .ref 86), (4, .int (nI i))], [])) (f2 := (33, [(0, .retAddr 0), (1, .ref 0), (2, .ref 69), (3, .ref 86), (4, .int (nI i))], [])) rfl (fun c1 => absurd (of_decide_eq_true c1) (zl_cmp0 hL (by omega) hi)) (fun c1 => ?_)
  refine zx.adv 2 (f' := (36, [(0, .retAddr 0), (1, .ref 0), (2, .ref 69), (3, .ref 86), (4, .int (nI i))], [.int (nI i), .retAddr 0])) (h' := zH v w t) rfl ?_
  refine zx.ob (f' := (37, [(0, .retAddr 0), (1, .ref 0), (2, .ref 69), (3, .ref 86), (4, .int (nI i))], [.int (xs (nI i).toNatClampNeg)])) (h' := zH v w t) rfl (zk_inN (show i < Ls by omega) (by omega)) ?_
  rw [nI_clamp (show i < 2 ^ 31 by omega)]
  refine zx.adv 2 (f' := (40, [(0, .retAddr 0), (1, .ref 0), (2, .ref 69), (3, .ref 86), (4, .int (nI i))], [.int ((xs i) &&& 63)])) (h' := zH v w t) rfl ?_
  rw [show (xs i) &&& 63 = 36 from hc]
  refine zx.adv 6 (f' := (1223, [(0, .retAddr 0), (1, .ref 0), (2, .ref 69), (3, .ref 86), (4, .int (nI i))], [.int ((nI i) + 1), .retAddr 0, .ref 0])) (h' := zH v w t) rfl ?_
  rw [show (nI i) + 1 = nI (i + 1) from nI_add i 1]
  refine zx.ob (f' := (1224, [(0, .retAddr 0), (1, .ref 0), (2, .ref 69), (3, .ref 86), (4, .int (nI i))], [.int (xs (nI (i + 1)).toNatClampNeg), .ref 0])) (h' := zH v w t) rfl (zk_inN (show (i + 1) < Ls by omega) (by omega)) ?_
  rw [nI_clamp (show (i + 1) < 2 ^ 31 by omega)]
  refine zx.adv 4 (f' := (1229, [(0, .retAddr 0), (1, .ref 0), (2, .ref 69), (3, .ref 86), (4, .int (nI i))], [.int ((nI i) + 2), .retAddr 0, .int (xs (i + 1)), .ref 0])) (h' := zH v w t) rfl ?_
  rw [show (nI i) + 2 = nI (i + 2) from nI_add i 2]
  refine zx.ob (f' := (1230, [(0, .retAddr 0), (1, .ref 0), (2, .ref 69), (3, .ref 86), (4, .int (nI i))], [.int (xs (nI (i + 2)).toNatClampNeg), .int (xs (i + 1)), .ref 0])) (h' := zH v w t) rfl (zk_inN (show (i + 2) < Ls by omega) (by omega)) ?_
  rw [nI_clamp (show (i + 2) < 2 ^ 31 by omega)]
  skip
  · obtain ⟨a, v1, w1, v2, w2, h1, h2, hj⟩ := (zT_weavesFrom (Ls := Ls) (xs := xs) (t := t) h (xs (i + 1)) (xs (i + 2))).l rfl rfl rfl
    refine zx.cl (v := some (.long a)) (h' := zH v1 w1 t) rfl h1 ?_
    show zx zk_mt zk_ex Ls xs zm_311 (1233, [(0, .retAddr 0), (1, .ref 0), (2, .ref 69), (3, .ref 86), (4, .int (nI i))], [.long a]) (zH v1 w1 t) _
    refine zx.adv 5 (f' := (1239, [(0, .retAddr 0), (1, .ref 0), (2, .ref 69), (3, .ref 86), (4, .int (nI i))], [.int ((nI i) + 1), .retAddr 0, .ref 69, .long a])) (h' := zH v1 w1 t) rfl ?_
    rw [show (nI i) + 1 = nI (i + 1) from nI_add i 1]
    refine zx.ob (f' := (1240, [(0, .retAddr 0), (1, .ref 0), (2, .ref 69), (3, .ref 86), (4, .int (nI i))], [.int (xs (nI (i + 1)).toNatClampNeg), .ref 69, .long a])) (h' := zH v1 w1 t) rfl (zk_inN (show (i + 1) < Ls by omega) (by omega)) ?_
    rw [nI_clamp (show (i + 1) < 2 ^ 31 by omega)]
    refine zx.adv 4 (f' := (1245, [(0, .retAddr 0), (1, .ref 0), (2, .ref 69), (3, .ref 86), (4, .int (nI i))], [.int ((nI i) + 2), .retAddr 0, .int (xs (i + 1)), .ref 69, .long a])) (h' := zH v1 w1 t) rfl ?_
    rw [show (nI i) + 2 = nI (i + 2) from nI_add i 2]
    refine zx.ob (f' := (1246, [(0, .retAddr 0), (1, .ref 0), (2, .ref 69), (3, .ref 86), (4, .int (nI i))], [.int (xs (nI (i + 2)).toNatClampNeg), .int (xs (i + 1)), .ref 69, .long a])) (h' := zH v1 w1 t) rfl (zk_inN (show (i + 2) < Ls by omega) (by omega)) ?_
    rw [nI_clamp (show (i + 2) < 2 ^ 31 by omega)]
    refine zx.cl (v := some (.long a)) (h' := zH v2 w2 t) rfl h2 ?_
    show zx zk_mt zk_ex Ls xs zm_311 (1249, [(0, .retAddr 0), (1, .ref 0), (2, .ref 69), (3, .ref 86), (4, .int (nI i))], [.long a, .long a]) (zH v2 w2 t) _
    refine zx.adv 1 (f' := (1250, [(0, .retAddr 0), (1, .ref 0), (2, .ref 69), (3, .ref 86), (4, .int (nI i))], [.int (lg_cmp a a)])) (h' := zH v2 w2 t) rfl ?_
    refine zx.br (f1 := (1927, [(0, .retAddr 0), (1, .ref 0), (2, .ref 69), (3, .ref 86), (4, .int (nI i))], [])) (f2 := (1253, [(0, .retAddr 0), (1, .ref 0), (2, .ref 69), (3, .ref 86), (4, .int (nI i))], [])) rfl (fun c2 => ?_) (fun c2 => absurd (zp_cmp.mpr rfl) (of_decide_eq_false c2))
    refine zx.adv 1 (f' := (1930, [(0, .retAddr 0), (1, .ref 0), (2, .ref 69), (3, .ref 86), (4, .int ((nI i) + 6))], [])) (h' := zH v2 w2 t) rfl ?_
    rw [show (nI i) + 6 = nI (i + 6) from nI_add i 6]
    refine zx.adv 1 (f' := (23, [(0, .retAddr 0), (1, .ref 0), (2, .ref 69), (3, .ref 86), (4, .int (nI (i + 6)))], [])) (h' := zH v2 w2 t) rfl ?_
    exact hQ v2 w2 t (by omega) (by omega) hj
theorem zlc_37 {Q : Option Value × zk_H → Prop} {i : Nat} (hL : Ls ≤ 3072) (hi : i + 6 ≤ Ls) (h : zJ v w) (hc : xs i &&& 63 = nI 37) (hQ : ∀ v2 w2 t2, t2.length ≤ t.length + 1 → zk_sl t2 ≤ zk_sl t + 6 → zJ v2 w2 → zx zk_mt zk_ex Ls xs zm_311 (23, [(0, .retAddr 0), (1, .ref 0), (2, .ref 69), (3, .ref 86), (4, .int (nI (i + 6)))], []) (zH v2 w2 t2) Q) : zx zk_mt zk_ex Ls xs zm_311 (23, [(0, .retAddr 0), (1, .ref 0), (2, .ref 69), (3, .ref 86), (4, .int (nI i))], []) (zH v w t) Q := by
  refine zx.adv 5 (f' := (30, [(0, .retAddr 0), (1, .ref 0), (2, .ref 69), (3, .ref 86), (4, .int (nI i))], [.int ((Int32.ofNat Ls) - 6), .int (nI i)])) (h' := zH v w t) rfl ?_
  refine zx.br (f1 := (1933, [(0, .retAddr 0), (1, .ref 0), (2, .ref 69), (3, .ref 86), (4, .int (nI i))], [])) (f2 := (33, [(0, .retAddr 0), (1, .ref 0), (2, .ref 69), (3, .ref 86), (4, .int (nI i))], [])) rfl (fun c1 => absurd (of_decide_eq_true c1) (zl_cmp0 hL (by omega) hi)) (fun c1 => ?_)
  refine zx.adv 2 (f' := (36, [(0, .retAddr 0), (1, .ref 0), (2, .ref 69), (3, .ref 86), (4, .int (nI i))], [.int (nI i), .retAddr 0])) (h' := zH v w t) rfl ?_
  refine zx.ob (f' := (37, [(0, .retAddr 0), (1, .ref 0), (2, .ref 69), (3, .ref 86), (4, .int (nI i))], [.int (xs (nI i).toNatClampNeg)])) (h' := zH v w t) rfl (zk_inN (show i < Ls by omega) (by omega)) ?_
  rw [nI_clamp (show i < 2 ^ 31 by omega)]
  refine zx.adv 2 (f' := (40, [(0, .retAddr 0), (1, .ref 0), (2, .ref 69), (3, .ref 86), (4, .int (nI i))], [.int ((xs i) &&& 63)])) (h' := zH v w t) rfl ?_
  rw [show (xs i) &&& 63 = 37 from hc]
  refine zx.adv 6 (f' := (1261, [(0, .retAddr 0), (1, .ref 0), (2, .ref 69), (3, .ref 86), (4, .int (nI i))], [.int ((nI i) + 1), .retAddr 0, .ref 0])) (h' := zH v w t) rfl ?_
  rw [show (nI i) + 1 = nI (i + 1) from nI_add i 1]
  refine zx.ob (f' := (1262, [(0, .retAddr 0), (1, .ref 0), (2, .ref 69), (3, .ref 86), (4, .int (nI i))], [.int (xs (nI (i + 1)).toNatClampNeg), .ref 0])) (h' := zH v w t) rfl (zk_inN (show (i + 1) < Ls by omega) (by omega)) ?_
  rw [nI_clamp (show (i + 1) < 2 ^ 31 by omega)]
  refine zx.adv 4 (f' := (1267, [(0, .retAddr 0), (1, .ref 0), (2, .ref 69), (3, .ref 86), (4, .int (nI i))], [.int ((nI i) + 2), .retAddr 0, .int (xs (i + 1)), .ref 0])) (h' := zH v w t) rfl ?_
  rw [show (nI i) + 2 = nI (i + 2) from nI_add i 2]
  refine zx.ob (f' := (1268, [(0, .retAddr 0), (1, .ref 0), (2, .ref 69), (3, .ref 86), (4, .int (nI i))], [.int (xs (nI (i + 2)).toNatClampNeg), .int (xs (i + 1)), .ref 0])) (h' := zH v w t) rfl (zk_inN (show (i + 2) < Ls by omega) (by omega)) ?_
  rw [nI_clamp (show (i + 2) < 2 ^ 31 by omega)]
  skip
  · obtain ⟨a, v1, w1, v2, w2, h1, h2, hj⟩ := (zT_strokes (Ls := Ls) (xs := xs) (t := t) h (xs (i + 1)) (xs (i + 2))).i rfl rfl (Or.inl rfl)
    refine zx.cl (v := some (.int a)) (h' := zH v1 w1 t) rfl h1 ?_
    show zx zk_mt zk_ex Ls xs zm_311 (1271, [(0, .retAddr 0), (1, .ref 0), (2, .ref 69), (3, .ref 86), (4, .int (nI i))], [.int a]) (zH v1 w1 t) _
    refine zx.adv 5 (f' := (1277, [(0, .retAddr 0), (1, .ref 0), (2, .ref 69), (3, .ref 86), (4, .int (nI i))], [.int ((nI i) + 1), .retAddr 0, .ref 69, .int a])) (h' := zH v1 w1 t) rfl ?_
    rw [show (nI i) + 1 = nI (i + 1) from nI_add i 1]
    refine zx.ob (f' := (1278, [(0, .retAddr 0), (1, .ref 0), (2, .ref 69), (3, .ref 86), (4, .int (nI i))], [.int (xs (nI (i + 1)).toNatClampNeg), .ref 69, .int a])) (h' := zH v1 w1 t) rfl (zk_inN (show (i + 1) < Ls by omega) (by omega)) ?_
    rw [nI_clamp (show (i + 1) < 2 ^ 31 by omega)]
    refine zx.adv 4 (f' := (1283, [(0, .retAddr 0), (1, .ref 0), (2, .ref 69), (3, .ref 86), (4, .int (nI i))], [.int ((nI i) + 2), .retAddr 0, .int (xs (i + 1)), .ref 69, .int a])) (h' := zH v1 w1 t) rfl ?_
    rw [show (nI i) + 2 = nI (i + 2) from nI_add i 2]
    refine zx.ob (f' := (1284, [(0, .retAddr 0), (1, .ref 0), (2, .ref 69), (3, .ref 86), (4, .int (nI i))], [.int (xs (nI (i + 2)).toNatClampNeg), .int (xs (i + 1)), .ref 69, .int a])) (h' := zH v1 w1 t) rfl (zk_inN (show (i + 2) < Ls by omega) (by omega)) ?_
    rw [nI_clamp (show (i + 2) < 2 ^ 31 by omega)]
    refine zx.cl (v := some (.int a)) (h' := zH v2 w2 t) rfl h2 ?_
    show zx zk_mt zk_ex Ls xs zm_311 (1287, [(0, .retAddr 0), (1, .ref 0), (2, .ref 69), (3, .ref 86), (4, .int (nI i))], [.int a, .int a]) (zH v2 w2 t) _
    refine zx.br (f1 := (1927, [(0, .retAddr 0), (1, .ref 0), (2, .ref 69), (3, .ref 86), (4, .int (nI i))], [])) (f2 := (1290, [(0, .retAddr 0), (1, .ref 0), (2, .ref 69), (3, .ref 86), (4, .int (nI i))], [])) rfl (fun c2 => ?_) (fun c2 => absurd rfl (of_decide_eq_false c2))
    refine zx.adv 1 (f' := (1930, [(0, .retAddr 0), (1, .ref 0), (2, .ref 69), (3, .ref 86), (4, .int ((nI i) + 6))], [])) (h' := zH v2 w2 t) rfl ?_
    rw [show (nI i) + 6 = nI (i + 6) from nI_add i 6]
    refine zx.adv 1 (f' := (23, [(0, .retAddr 0), (1, .ref 0), (2, .ref 69), (3, .ref 86), (4, .int (nI (i + 6)))], [])) (h' := zH v2 w2 t) rfl ?_
    exact hQ v2 w2 t (by omega) (by omega) hj
theorem zlc_38 {Q : Option Value × zk_H → Prop} {i : Nat} (hL : Ls ≤ 3072) (hi : i + 6 ≤ Ls) (h : zJ v w) (hc : xs i &&& 63 = nI 38) (hQ : ∀ v2 w2 t2, t2.length ≤ t.length + 1 → zk_sl t2 ≤ zk_sl t + 6 → zJ v2 w2 → zx zk_mt zk_ex Ls xs zm_311 (23, [(0, .retAddr 0), (1, .ref 0), (2, .ref 69), (3, .ref 86), (4, .int (nI (i + 6)))], []) (zH v2 w2 t2) Q) : zx zk_mt zk_ex Ls xs zm_311 (23, [(0, .retAddr 0), (1, .ref 0), (2, .ref 69), (3, .ref 86), (4, .int (nI i))], []) (zH v w t) Q := by
  refine zx.adv 5 (f' := (30, [(0, .retAddr 0), (1, .ref 0), (2, .ref 69), (3, .ref 86), (4, .int (nI i))], [.int ((Int32.ofNat Ls) - 6), .int (nI i)])) (h' := zH v w t) rfl ?_
  refine zx.br (f1 := (1933, [(0, .retAddr 0), (1, .ref 0), (2, .ref 69), (3, .ref 86), (4, .int (nI i))], [])) (f2 := (33, [(0, .retAddr 0), (1, .ref 0), (2, .ref 69), (3, .ref 86), (4, .int (nI i))], [])) rfl (fun c1 => absurd (of_decide_eq_true c1) (zl_cmp0 hL (by omega) hi)) (fun c1 => ?_)
  refine zx.adv 2 (f' := (36, [(0, .retAddr 0), (1, .ref 0), (2, .ref 69), (3, .ref 86), (4, .int (nI i))], [.int (nI i), .retAddr 0])) (h' := zH v w t) rfl ?_
  refine zx.ob (f' := (37, [(0, .retAddr 0), (1, .ref 0), (2, .ref 69), (3, .ref 86), (4, .int (nI i))], [.int (xs (nI i).toNatClampNeg)])) (h' := zH v w t) rfl (zk_inN (show i < Ls by omega) (by omega)) ?_
  rw [nI_clamp (show i < 2 ^ 31 by omega)]
  refine zx.adv 2 (f' := (40, [(0, .retAddr 0), (1, .ref 0), (2, .ref 69), (3, .ref 86), (4, .int (nI i))], [.int ((xs i) &&& 63)])) (h' := zH v w t) rfl ?_
  rw [show (xs i) &&& 63 = 38 from hc]
  refine zx.adv 6 (f' := (1298, [(0, .retAddr 0), (1, .ref 0), (2, .ref 69), (3, .ref 86), (4, .int (nI i))], [.int ((nI i) + 1), .retAddr 0, .ref 0])) (h' := zH v w t) rfl ?_
  rw [show (nI i) + 1 = nI (i + 1) from nI_add i 1]
  refine zx.ob (f' := (1299, [(0, .retAddr 0), (1, .ref 0), (2, .ref 69), (3, .ref 86), (4, .int (nI i))], [.int (xs (nI (i + 1)).toNatClampNeg), .ref 0])) (h' := zH v w t) rfl (zk_inN (show (i + 1) < Ls by omega) (by omega)) ?_
  rw [nI_clamp (show (i + 1) < 2 ^ 31 by omega)]
  refine zx.adv 4 (f' := (1304, [(0, .retAddr 0), (1, .ref 0), (2, .ref 69), (3, .ref 86), (4, .int (nI i))], [.int ((nI i) + 2), .retAddr 0, .int (xs (i + 1)), .ref 0])) (h' := zH v w t) rfl ?_
  rw [show (nI i) + 2 = nI (i + 2) from nI_add i 2]
  refine zx.ob (f' := (1305, [(0, .retAddr 0), (1, .ref 0), (2, .ref 69), (3, .ref 86), (4, .int (nI i))], [.int (xs (nI (i + 2)).toNatClampNeg), .int (xs (i + 1)), .ref 0])) (h' := zH v w t) rfl (zk_inN (show (i + 2) < Ls by omega) (by omega)) ?_
  rw [nI_clamp (show (i + 2) < 2 ^ 31 by omega)]
  refine zx.br (f1 := (1312, [(0, .retAddr 0), (1, .ref 0), (2, .ref 69), (3, .ref 86), (4, .int (nI i))], [.int (xs (i + 1)), .ref 0])) (f2 := (1308, [(0, .retAddr 0), (1, .ref 0), (2, .ref 69), (3, .ref 86), (4, .int (nI i))], [.int (xs (i + 1)), .ref 0])) rfl (fun c2 => ?_) (fun c2 => ?_)
  · have c2 : (xs (i + 2)) = 0 := of_decide_eq_true c2
    refine zx.adv 5 (f' := (1318, [(0, .retAddr 0), (1, .ref 0), (2, .ref 69), (3, .ref 86), (4, .int (nI i))], [.int ((nI i) + 3), .retAddr 0, .int 0, .int (xs (i + 1)), .ref 0])) (h' := zH v w t) rfl ?_
    rw [show (nI i) + 3 = nI (i + 3) from nI_add i 3]
    refine zx.ob (f' := (1319, [(0, .retAddr 0), (1, .ref 0), (2, .ref 69), (3, .ref 86), (4, .int (nI i))], [.int (xs (nI (i + 3)).toNatClampNeg), .int 0, .int (xs (i + 1)), .ref 0])) (h' := zH v w t) rfl (zk_inN (show (i + 3) < Ls by omega) (by omega)) ?_
    rw [nI_clamp (show (i + 3) < 2 ^ 31 by omega)]
    refine zx.br (f1 := (1326, [(0, .retAddr 0), (1, .ref 0), (2, .ref 69), (3, .ref 86), (4, .int (nI i))], [.int 0, .int (xs (i + 1)), .ref 0])) (f2 := (1322, [(0, .retAddr 0), (1, .ref 0), (2, .ref 69), (3, .ref 86), (4, .int (nI i))], [.int 0, .int (xs (i + 1)), .ref 0])) rfl (fun c3 => ?_) (fun c3 => ?_)
    · have c3 : (xs (i + 3)) = 0 := of_decide_eq_true c3
      refine zx.adv 5 (f' := (1332, [(0, .retAddr 0), (1, .ref 0), (2, .ref 69), (3, .ref 86), (4, .int (nI i))], [.int ((nI i) + 4), .retAddr 0, .int 0, .int 0, .int (xs (i + 1)), .ref 0])) (h' := zH v w t) rfl ?_
      rw [show (nI i) + 4 = nI (i + 4) from nI_add i 4]
      refine zx.ob (f' := (1333, [(0, .retAddr 0), (1, .ref 0), (2, .ref 69), (3, .ref 86), (4, .int (nI i))], [.int (xs (nI (i + 4)).toNatClampNeg), .int 0, .int 0, .int (xs (i + 1)), .ref 0])) (h' := zH v w t) rfl (zk_inN (show (i + 4) < Ls by omega) (by omega)) ?_
      rw [nI_clamp (show (i + 4) < 2 ^ 31 by omega)]
      refine zx.br (f1 := (1340, [(0, .retAddr 0), (1, .ref 0), (2, .ref 69), (3, .ref 86), (4, .int (nI i))], [.int 0, .int 0, .int (xs (i + 1)), .ref 0])) (f2 := (1336, [(0, .retAddr 0), (1, .ref 0), (2, .ref 69), (3, .ref 86), (4, .int (nI i))], [.int 0, .int 0, .int (xs (i + 1)), .ref 0])) rfl (fun c4 => ?_) (fun c4 => ?_)
      · have c4 : (xs (i + 4)) = 0 := of_decide_eq_true c4
        refine zx.adv 1 (f' := (1341, [(0, .retAddr 0), (1, .ref 0), (2, .ref 69), (3, .ref 86), (4, .int (nI i))], [.int 0, .int 0, .int 0, .int (xs (i + 1)), .ref 0])) (h' := zH v w t) rfl ?_
        skip
        · obtain ⟨a, v1, w1, v2, w2, h1, h2, hj⟩ := (zT_holds (Ls := Ls) (xs := xs) (t := t) h (xs (i + 1)) 0 0 0).i rfl rfl (Or.inl rfl)
          refine zx.cl (v := some (.int a)) (h' := zH v1 w1 t) rfl h1 ?_
          show zx zk_mt zk_ex Ls xs zm_311 (1344, [(0, .retAddr 0), (1, .ref 0), (2, .ref 69), (3, .ref 86), (4, .int (nI i))], [.int a]) (zH v1 w1 t) _
          refine zx.adv 5 (f' := (1350, [(0, .retAddr 0), (1, .ref 0), (2, .ref 69), (3, .ref 86), (4, .int (nI i))], [.int ((nI i) + 1), .retAddr 0, .ref 69, .int a])) (h' := zH v1 w1 t) rfl ?_
          rw [show (nI i) + 1 = nI (i + 1) from nI_add i 1]
          refine zx.ob (f' := (1351, [(0, .retAddr 0), (1, .ref 0), (2, .ref 69), (3, .ref 86), (4, .int (nI i))], [.int (xs (nI (i + 1)).toNatClampNeg), .ref 69, .int a])) (h' := zH v1 w1 t) rfl (zk_inN (show (i + 1) < Ls by omega) (by omega)) ?_
          rw [nI_clamp (show (i + 1) < 2 ^ 31 by omega)]
          refine zx.adv 4 (f' := (1356, [(0, .retAddr 0), (1, .ref 0), (2, .ref 69), (3, .ref 86), (4, .int (nI i))], [.int ((nI i) + 2), .retAddr 0, .int (xs (i + 1)), .ref 69, .int a])) (h' := zH v1 w1 t) rfl ?_
          rw [show (nI i) + 2 = nI (i + 2) from nI_add i 2]
          refine zx.ob (f' := (1357, [(0, .retAddr 0), (1, .ref 0), (2, .ref 69), (3, .ref 86), (4, .int (nI i))], [.int (xs (nI (i + 2)).toNatClampNeg), .int (xs (i + 1)), .ref 69, .int a])) (h' := zH v1 w1 t) rfl (zk_inN (show (i + 2) < Ls by omega) (by omega)) ?_
          rw [nI_clamp (show (i + 2) < 2 ^ 31 by omega)]
          refine zx.br (f1 := (1364, [(0, .retAddr 0), (1, .ref 0), (2, .ref 69), (3, .ref 86), (4, .int (nI i))], [.int (xs (i + 1)), .ref 69, .int a])) (f2 := (1360, [(0, .retAddr 0), (1, .ref 0), (2, .ref 69), (3, .ref 86), (4, .int (nI i))], [.int (xs (i + 1)), .ref 69, .int a])) rfl (fun c5 => ?_) (fun c5 => absurd c2 (of_decide_eq_false c5))
          refine zx.adv 5 (f' := (1370, [(0, .retAddr 0), (1, .ref 0), (2, .ref 69), (3, .ref 86), (4, .int (nI i))], [.int ((nI i) + 3), .retAddr 0, .int 0, .int (xs (i + 1)), .ref 69, .int a])) (h' := zH v1 w1 t) rfl ?_
          rw [show (nI i) + 3 = nI (i + 3) from nI_add i 3]
          refine zx.ob (f' := (1371, [(0, .retAddr 0), (1, .ref 0), (2, .ref 69), (3, .ref 86), (4, .int (nI i))], [.int (xs (nI (i + 3)).toNatClampNeg), .int 0, .int (xs (i + 1)), .ref 69, .int a])) (h' := zH v1 w1 t) rfl (zk_inN (show (i + 3) < Ls by omega) (by omega)) ?_
          rw [nI_clamp (show (i + 3) < 2 ^ 31 by omega)]
          refine zx.br (f1 := (1378, [(0, .retAddr 0), (1, .ref 0), (2, .ref 69), (3, .ref 86), (4, .int (nI i))], [.int 0, .int (xs (i + 1)), .ref 69, .int a])) (f2 := (1374, [(0, .retAddr 0), (1, .ref 0), (2, .ref 69), (3, .ref 86), (4, .int (nI i))], [.int 0, .int (xs (i + 1)), .ref 69, .int a])) rfl (fun c6 => ?_) (fun c6 => absurd c3 (of_decide_eq_false c6))
          refine zx.adv 5 (f' := (1384, [(0, .retAddr 0), (1, .ref 0), (2, .ref 69), (3, .ref 86), (4, .int (nI i))], [.int ((nI i) + 4), .retAddr 0, .int 0, .int 0, .int (xs (i + 1)), .ref 69, .int a])) (h' := zH v1 w1 t) rfl ?_
          rw [show (nI i) + 4 = nI (i + 4) from nI_add i 4]
          refine zx.ob (f' := (1385, [(0, .retAddr 0), (1, .ref 0), (2, .ref 69), (3, .ref 86), (4, .int (nI i))], [.int (xs (nI (i + 4)).toNatClampNeg), .int 0, .int 0, .int (xs (i + 1)), .ref 69, .int a])) (h' := zH v1 w1 t) rfl (zk_inN (show (i + 4) < Ls by omega) (by omega)) ?_
          rw [nI_clamp (show (i + 4) < 2 ^ 31 by omega)]
          refine zx.br (f1 := (1392, [(0, .retAddr 0), (1, .ref 0), (2, .ref 69), (3, .ref 86), (4, .int (nI i))], [.int 0, .int 0, .int (xs (i + 1)), .ref 69, .int a])) (f2 := (1388, [(0, .retAddr 0), (1, .ref 0), (2, .ref 69), (3, .ref 86), (4, .int (nI i))], [.int 0, .int 0, .int (xs (i + 1)), .ref 69, .int a])) rfl (fun c7 => ?_) (fun c7 => absurd c4 (of_decide_eq_false c7))
          refine zx.adv 1 (f' := (1393, [(0, .retAddr 0), (1, .ref 0), (2, .ref 69), (3, .ref 86), (4, .int (nI i))], [.int 0, .int 0, .int 0, .int (xs (i + 1)), .ref 69, .int a])) (h' := zH v1 w1 t) rfl ?_
          refine zx.cl (v := some (.int a)) (h' := zH v2 w2 t) rfl h2 ?_
          show zx zk_mt zk_ex Ls xs zm_311 (1396, [(0, .retAddr 0), (1, .ref 0), (2, .ref 69), (3, .ref 86), (4, .int (nI i))], [.int a, .int a]) (zH v2 w2 t) _
          refine zx.br (f1 := (1927, [(0, .retAddr 0), (1, .ref 0), (2, .ref 69), (3, .ref 86), (4, .int (nI i))], [])) (f2 := (1399, [(0, .retAddr 0), (1, .ref 0), (2, .ref 69), (3, .ref 86), (4, .int (nI i))], [])) rfl (fun c8 => ?_) (fun c8 => absurd rfl (of_decide_eq_false c8))
          refine zx.adv 1 (f' := (1930, [(0, .retAddr 0), (1, .ref 0), (2, .ref 69), (3, .ref 86), (4, .int ((nI i) + 6))], [])) (h' := zH v2 w2 t) rfl ?_
          rw [show (nI i) + 6 = nI (i + 6) from nI_add i 6]
          refine zx.adv 1 (f' := (23, [(0, .retAddr 0), (1, .ref 0), (2, .ref 69), (3, .ref 86), (4, .int (nI (i + 6)))], [])) (h' := zH v2 w2 t) rfl ?_
          exact hQ v2 w2 t (by omega) (by omega) hj
      · have c4 : ¬ ((xs (i + 4)) = 0) := of_decide_eq_false c4
        refine zx.adv 2 (f' := (1341, [(0, .retAddr 0), (1, .ref 0), (2, .ref 69), (3, .ref 86), (4, .int (nI i))], [.int 1, .int 0, .int 0, .int (xs (i + 1)), .ref 0])) (h' := zH v w t) rfl ?_
        skip
        · obtain ⟨a, v1, w1, v2, w2, h1, h2, hj⟩ := (zT_holds (Ls := Ls) (xs := xs) (t := t) h (xs (i + 1)) 0 0 1).i rfl rfl (Or.inl rfl)
          refine zx.cl (v := some (.int a)) (h' := zH v1 w1 t) rfl h1 ?_
          show zx zk_mt zk_ex Ls xs zm_311 (1344, [(0, .retAddr 0), (1, .ref 0), (2, .ref 69), (3, .ref 86), (4, .int (nI i))], [.int a]) (zH v1 w1 t) _
          refine zx.adv 5 (f' := (1350, [(0, .retAddr 0), (1, .ref 0), (2, .ref 69), (3, .ref 86), (4, .int (nI i))], [.int ((nI i) + 1), .retAddr 0, .ref 69, .int a])) (h' := zH v1 w1 t) rfl ?_
          rw [show (nI i) + 1 = nI (i + 1) from nI_add i 1]
          refine zx.ob (f' := (1351, [(0, .retAddr 0), (1, .ref 0), (2, .ref 69), (3, .ref 86), (4, .int (nI i))], [.int (xs (nI (i + 1)).toNatClampNeg), .ref 69, .int a])) (h' := zH v1 w1 t) rfl (zk_inN (show (i + 1) < Ls by omega) (by omega)) ?_
          rw [nI_clamp (show (i + 1) < 2 ^ 31 by omega)]
          refine zx.adv 4 (f' := (1356, [(0, .retAddr 0), (1, .ref 0), (2, .ref 69), (3, .ref 86), (4, .int (nI i))], [.int ((nI i) + 2), .retAddr 0, .int (xs (i + 1)), .ref 69, .int a])) (h' := zH v1 w1 t) rfl ?_
          rw [show (nI i) + 2 = nI (i + 2) from nI_add i 2]
          refine zx.ob (f' := (1357, [(0, .retAddr 0), (1, .ref 0), (2, .ref 69), (3, .ref 86), (4, .int (nI i))], [.int (xs (nI (i + 2)).toNatClampNeg), .int (xs (i + 1)), .ref 69, .int a])) (h' := zH v1 w1 t) rfl (zk_inN (show (i + 2) < Ls by omega) (by omega)) ?_
          rw [nI_clamp (show (i + 2) < 2 ^ 31 by omega)]
          refine zx.br (f1 := (1364, [(0, .retAddr 0), (1, .ref 0), (2, .ref 69), (3, .ref 86), (4, .int (nI i))], [.int (xs (i + 1)), .ref 69, .int a])) (f2 := (1360, [(0, .retAddr 0), (1, .ref 0), (2, .ref 69), (3, .ref 86), (4, .int (nI i))], [.int (xs (i + 1)), .ref 69, .int a])) rfl (fun c9 => ?_) (fun c9 => absurd c2 (of_decide_eq_false c9))
          refine zx.adv 5 (f' := (1370, [(0, .retAddr 0), (1, .ref 0), (2, .ref 69), (3, .ref 86), (4, .int (nI i))], [.int ((nI i) + 3), .retAddr 0, .int 0, .int (xs (i + 1)), .ref 69, .int a])) (h' := zH v1 w1 t) rfl ?_
          rw [show (nI i) + 3 = nI (i + 3) from nI_add i 3]
          refine zx.ob (f' := (1371, [(0, .retAddr 0), (1, .ref 0), (2, .ref 69), (3, .ref 86), (4, .int (nI i))], [.int (xs (nI (i + 3)).toNatClampNeg), .int 0, .int (xs (i + 1)), .ref 69, .int a])) (h' := zH v1 w1 t) rfl (zk_inN (show (i + 3) < Ls by omega) (by omega)) ?_
          rw [nI_clamp (show (i + 3) < 2 ^ 31 by omega)]
          refine zx.br (f1 := (1378, [(0, .retAddr 0), (1, .ref 0), (2, .ref 69), (3, .ref 86), (4, .int (nI i))], [.int 0, .int (xs (i + 1)), .ref 69, .int a])) (f2 := (1374, [(0, .retAddr 0), (1, .ref 0), (2, .ref 69), (3, .ref 86), (4, .int (nI i))], [.int 0, .int (xs (i + 1)), .ref 69, .int a])) rfl (fun c10 => ?_) (fun c10 => absurd c3 (of_decide_eq_false c10))
          refine zx.adv 5 (f' := (1384, [(0, .retAddr 0), (1, .ref 0), (2, .ref 69), (3, .ref 86), (4, .int (nI i))], [.int ((nI i) + 4), .retAddr 0, .int 0, .int 0, .int (xs (i + 1)), .ref 69, .int a])) (h' := zH v1 w1 t) rfl ?_
          rw [show (nI i) + 4 = nI (i + 4) from nI_add i 4]
          refine zx.ob (f' := (1385, [(0, .retAddr 0), (1, .ref 0), (2, .ref 69), (3, .ref 86), (4, .int (nI i))], [.int (xs (nI (i + 4)).toNatClampNeg), .int 0, .int 0, .int (xs (i + 1)), .ref 69, .int a])) (h' := zH v1 w1 t) rfl (zk_inN (show (i + 4) < Ls by omega) (by omega)) ?_
          rw [nI_clamp (show (i + 4) < 2 ^ 31 by omega)]
          refine zx.br (f1 := (1392, [(0, .retAddr 0), (1, .ref 0), (2, .ref 69), (3, .ref 86), (4, .int (nI i))], [.int 0, .int 0, .int (xs (i + 1)), .ref 69, .int a])) (f2 := (1388, [(0, .retAddr 0), (1, .ref 0), (2, .ref 69), (3, .ref 86), (4, .int (nI i))], [.int 0, .int 0, .int (xs (i + 1)), .ref 69, .int a])) rfl (fun c11 => absurd (of_decide_eq_true c11) c4) (fun c11 => ?_)
          refine zx.adv 2 (f' := (1393, [(0, .retAddr 0), (1, .ref 0), (2, .ref 69), (3, .ref 86), (4, .int (nI i))], [.int 1, .int 0, .int 0, .int (xs (i + 1)), .ref 69, .int a])) (h' := zH v1 w1 t) rfl ?_
          refine zx.cl (v := some (.int a)) (h' := zH v2 w2 t) rfl h2 ?_
          show zx zk_mt zk_ex Ls xs zm_311 (1396, [(0, .retAddr 0), (1, .ref 0), (2, .ref 69), (3, .ref 86), (4, .int (nI i))], [.int a, .int a]) (zH v2 w2 t) _
          refine zx.br (f1 := (1927, [(0, .retAddr 0), (1, .ref 0), (2, .ref 69), (3, .ref 86), (4, .int (nI i))], [])) (f2 := (1399, [(0, .retAddr 0), (1, .ref 0), (2, .ref 69), (3, .ref 86), (4, .int (nI i))], [])) rfl (fun c12 => ?_) (fun c12 => absurd rfl (of_decide_eq_false c12))
          refine zx.adv 1 (f' := (1930, [(0, .retAddr 0), (1, .ref 0), (2, .ref 69), (3, .ref 86), (4, .int ((nI i) + 6))], [])) (h' := zH v2 w2 t) rfl ?_
          rw [show (nI i) + 6 = nI (i + 6) from nI_add i 6]
          refine zx.adv 1 (f' := (23, [(0, .retAddr 0), (1, .ref 0), (2, .ref 69), (3, .ref 86), (4, .int (nI (i + 6)))], [])) (h' := zH v2 w2 t) rfl ?_
          exact hQ v2 w2 t (by omega) (by omega) hj
    · have c3 : ¬ ((xs (i + 3)) = 0) := of_decide_eq_false c3
      refine zx.adv 6 (f' := (1332, [(0, .retAddr 0), (1, .ref 0), (2, .ref 69), (3, .ref 86), (4, .int (nI i))], [.int ((nI i) + 4), .retAddr 0, .int 1, .int 0, .int (xs (i + 1)), .ref 0])) (h' := zH v w t) rfl ?_
      rw [show (nI i) + 4 = nI (i + 4) from nI_add i 4]
      refine zx.ob (f' := (1333, [(0, .retAddr 0), (1, .ref 0), (2, .ref 69), (3, .ref 86), (4, .int (nI i))], [.int (xs (nI (i + 4)).toNatClampNeg), .int 1, .int 0, .int (xs (i + 1)), .ref 0])) (h' := zH v w t) rfl (zk_inN (show (i + 4) < Ls by omega) (by omega)) ?_
      rw [nI_clamp (show (i + 4) < 2 ^ 31 by omega)]
      refine zx.br (f1 := (1340, [(0, .retAddr 0), (1, .ref 0), (2, .ref 69), (3, .ref 86), (4, .int (nI i))], [.int 1, .int 0, .int (xs (i + 1)), .ref 0])) (f2 := (1336, [(0, .retAddr 0), (1, .ref 0), (2, .ref 69), (3, .ref 86), (4, .int (nI i))], [.int 1, .int 0, .int (xs (i + 1)), .ref 0])) rfl (fun c13 => ?_) (fun c13 => ?_)
      · have c13 : (xs (i + 4)) = 0 := of_decide_eq_true c13
        refine zx.adv 1 (f' := (1341, [(0, .retAddr 0), (1, .ref 0), (2, .ref 69), (3, .ref 86), (4, .int (nI i))], [.int 0, .int 1, .int 0, .int (xs (i + 1)), .ref 0])) (h' := zH v w t) rfl ?_
        skip
        · obtain ⟨a, v1, w1, v2, w2, h1, h2, hj⟩ := (zT_holds (Ls := Ls) (xs := xs) (t := t) h (xs (i + 1)) 0 1 0).i rfl rfl (Or.inl rfl)
          refine zx.cl (v := some (.int a)) (h' := zH v1 w1 t) rfl h1 ?_
          show zx zk_mt zk_ex Ls xs zm_311 (1344, [(0, .retAddr 0), (1, .ref 0), (2, .ref 69), (3, .ref 86), (4, .int (nI i))], [.int a]) (zH v1 w1 t) _
          refine zx.adv 5 (f' := (1350, [(0, .retAddr 0), (1, .ref 0), (2, .ref 69), (3, .ref 86), (4, .int (nI i))], [.int ((nI i) + 1), .retAddr 0, .ref 69, .int a])) (h' := zH v1 w1 t) rfl ?_
          rw [show (nI i) + 1 = nI (i + 1) from nI_add i 1]
          refine zx.ob (f' := (1351, [(0, .retAddr 0), (1, .ref 0), (2, .ref 69), (3, .ref 86), (4, .int (nI i))], [.int (xs (nI (i + 1)).toNatClampNeg), .ref 69, .int a])) (h' := zH v1 w1 t) rfl (zk_inN (show (i + 1) < Ls by omega) (by omega)) ?_
          rw [nI_clamp (show (i + 1) < 2 ^ 31 by omega)]
          refine zx.adv 4 (f' := (1356, [(0, .retAddr 0), (1, .ref 0), (2, .ref 69), (3, .ref 86), (4, .int (nI i))], [.int ((nI i) + 2), .retAddr 0, .int (xs (i + 1)), .ref 69, .int a])) (h' := zH v1 w1 t) rfl ?_
          rw [show (nI i) + 2 = nI (i + 2) from nI_add i 2]
          refine zx.ob (f' := (1357, [(0, .retAddr 0), (1, .ref 0), (2, .ref 69), (3, .ref 86), (4, .int (nI i))], [.int (xs (nI (i + 2)).toNatClampNeg), .int (xs (i + 1)), .ref 69, .int a])) (h' := zH v1 w1 t) rfl (zk_inN (show (i + 2) < Ls by omega) (by omega)) ?_
          rw [nI_clamp (show (i + 2) < 2 ^ 31 by omega)]
          refine zx.br (f1 := (1364, [(0, .retAddr 0), (1, .ref 0), (2, .ref 69), (3, .ref 86), (4, .int (nI i))], [.int (xs (i + 1)), .ref 69, .int a])) (f2 := (1360, [(0, .retAddr 0), (1, .ref 0), (2, .ref 69), (3, .ref 86), (4, .int (nI i))], [.int (xs (i + 1)), .ref 69, .int a])) rfl (fun c14 => ?_) (fun c14 => absurd c2 (of_decide_eq_false c14))
          refine zx.adv 5 (f' := (1370, [(0, .retAddr 0), (1, .ref 0), (2, .ref 69), (3, .ref 86), (4, .int (nI i))], [.int ((nI i) + 3), .retAddr 0, .int 0, .int (xs (i + 1)), .ref 69, .int a])) (h' := zH v1 w1 t) rfl ?_
          rw [show (nI i) + 3 = nI (i + 3) from nI_add i 3]
          refine zx.ob (f' := (1371, [(0, .retAddr 0), (1, .ref 0), (2, .ref 69), (3, .ref 86), (4, .int (nI i))], [.int (xs (nI (i + 3)).toNatClampNeg), .int 0, .int (xs (i + 1)), .ref 69, .int a])) (h' := zH v1 w1 t) rfl (zk_inN (show (i + 3) < Ls by omega) (by omega)) ?_
          rw [nI_clamp (show (i + 3) < 2 ^ 31 by omega)]
          refine zx.br (f1 := (1378, [(0, .retAddr 0), (1, .ref 0), (2, .ref 69), (3, .ref 86), (4, .int (nI i))], [.int 0, .int (xs (i + 1)), .ref 69, .int a])) (f2 := (1374, [(0, .retAddr 0), (1, .ref 0), (2, .ref 69), (3, .ref 86), (4, .int (nI i))], [.int 0, .int (xs (i + 1)), .ref 69, .int a])) rfl (fun c15 => absurd (of_decide_eq_true c15) c3) (fun c15 => ?_)
          refine zx.adv 6 (f' := (1384, [(0, .retAddr 0), (1, .ref 0), (2, .ref 69), (3, .ref 86), (4, .int (nI i))], [.int ((nI i) + 4), .retAddr 0, .int 1, .int 0, .int (xs (i + 1)), .ref 69, .int a])) (h' := zH v1 w1 t) rfl ?_
          rw [show (nI i) + 4 = nI (i + 4) from nI_add i 4]
          refine zx.ob (f' := (1385, [(0, .retAddr 0), (1, .ref 0), (2, .ref 69), (3, .ref 86), (4, .int (nI i))], [.int (xs (nI (i + 4)).toNatClampNeg), .int 1, .int 0, .int (xs (i + 1)), .ref 69, .int a])) (h' := zH v1 w1 t) rfl (zk_inN (show (i + 4) < Ls by omega) (by omega)) ?_
          rw [nI_clamp (show (i + 4) < 2 ^ 31 by omega)]
          refine zx.br (f1 := (1392, [(0, .retAddr 0), (1, .ref 0), (2, .ref 69), (3, .ref 86), (4, .int (nI i))], [.int 1, .int 0, .int (xs (i + 1)), .ref 69, .int a])) (f2 := (1388, [(0, .retAddr 0), (1, .ref 0), (2, .ref 69), (3, .ref 86), (4, .int (nI i))], [.int 1, .int 0, .int (xs (i + 1)), .ref 69, .int a])) rfl (fun c16 => ?_) (fun c16 => absurd c13 (of_decide_eq_false c16))
          refine zx.adv 1 (f' := (1393, [(0, .retAddr 0), (1, .ref 0), (2, .ref 69), (3, .ref 86), (4, .int (nI i))], [.int 0, .int 1, .int 0, .int (xs (i + 1)), .ref 69, .int a])) (h' := zH v1 w1 t) rfl ?_
          refine zx.cl (v := some (.int a)) (h' := zH v2 w2 t) rfl h2 ?_
          show zx zk_mt zk_ex Ls xs zm_311 (1396, [(0, .retAddr 0), (1, .ref 0), (2, .ref 69), (3, .ref 86), (4, .int (nI i))], [.int a, .int a]) (zH v2 w2 t) _
          refine zx.br (f1 := (1927, [(0, .retAddr 0), (1, .ref 0), (2, .ref 69), (3, .ref 86), (4, .int (nI i))], [])) (f2 := (1399, [(0, .retAddr 0), (1, .ref 0), (2, .ref 69), (3, .ref 86), (4, .int (nI i))], [])) rfl (fun c17 => ?_) (fun c17 => absurd rfl (of_decide_eq_false c17))
          refine zx.adv 1 (f' := (1930, [(0, .retAddr 0), (1, .ref 0), (2, .ref 69), (3, .ref 86), (4, .int ((nI i) + 6))], [])) (h' := zH v2 w2 t) rfl ?_
          rw [show (nI i) + 6 = nI (i + 6) from nI_add i 6]
          refine zx.adv 1 (f' := (23, [(0, .retAddr 0), (1, .ref 0), (2, .ref 69), (3, .ref 86), (4, .int (nI (i + 6)))], [])) (h' := zH v2 w2 t) rfl ?_
          exact hQ v2 w2 t (by omega) (by omega) hj
      · have c13 : ¬ ((xs (i + 4)) = 0) := of_decide_eq_false c13
        refine zx.adv 2 (f' := (1341, [(0, .retAddr 0), (1, .ref 0), (2, .ref 69), (3, .ref 86), (4, .int (nI i))], [.int 1, .int 1, .int 0, .int (xs (i + 1)), .ref 0])) (h' := zH v w t) rfl ?_
        skip
        · obtain ⟨a, v1, w1, v2, w2, h1, h2, hj⟩ := (zT_holds (Ls := Ls) (xs := xs) (t := t) h (xs (i + 1)) 0 1 1).i rfl rfl (Or.inl rfl)
          refine zx.cl (v := some (.int a)) (h' := zH v1 w1 t) rfl h1 ?_
          show zx zk_mt zk_ex Ls xs zm_311 (1344, [(0, .retAddr 0), (1, .ref 0), (2, .ref 69), (3, .ref 86), (4, .int (nI i))], [.int a]) (zH v1 w1 t) _
          refine zx.adv 5 (f' := (1350, [(0, .retAddr 0), (1, .ref 0), (2, .ref 69), (3, .ref 86), (4, .int (nI i))], [.int ((nI i) + 1), .retAddr 0, .ref 69, .int a])) (h' := zH v1 w1 t) rfl ?_
          rw [show (nI i) + 1 = nI (i + 1) from nI_add i 1]
          refine zx.ob (f' := (1351, [(0, .retAddr 0), (1, .ref 0), (2, .ref 69), (3, .ref 86), (4, .int (nI i))], [.int (xs (nI (i + 1)).toNatClampNeg), .ref 69, .int a])) (h' := zH v1 w1 t) rfl (zk_inN (show (i + 1) < Ls by omega) (by omega)) ?_
          rw [nI_clamp (show (i + 1) < 2 ^ 31 by omega)]
          refine zx.adv 4 (f' := (1356, [(0, .retAddr 0), (1, .ref 0), (2, .ref 69), (3, .ref 86), (4, .int (nI i))], [.int ((nI i) + 2), .retAddr 0, .int (xs (i + 1)), .ref 69, .int a])) (h' := zH v1 w1 t) rfl ?_
          rw [show (nI i) + 2 = nI (i + 2) from nI_add i 2]
          refine zx.ob (f' := (1357, [(0, .retAddr 0), (1, .ref 0), (2, .ref 69), (3, .ref 86), (4, .int (nI i))], [.int (xs (nI (i + 2)).toNatClampNeg), .int (xs (i + 1)), .ref 69, .int a])) (h' := zH v1 w1 t) rfl (zk_inN (show (i + 2) < Ls by omega) (by omega)) ?_
          rw [nI_clamp (show (i + 2) < 2 ^ 31 by omega)]
          refine zx.br (f1 := (1364, [(0, .retAddr 0), (1, .ref 0), (2, .ref 69), (3, .ref 86), (4, .int (nI i))], [.int (xs (i + 1)), .ref 69, .int a])) (f2 := (1360, [(0, .retAddr 0), (1, .ref 0), (2, .ref 69), (3, .ref 86), (4, .int (nI i))], [.int (xs (i + 1)), .ref 69, .int a])) rfl (fun c18 => ?_) (fun c18 => absurd c2 (of_decide_eq_false c18))
          refine zx.adv 5 (f' := (1370, [(0, .retAddr 0), (1, .ref 0), (2, .ref 69), (3, .ref 86), (4, .int (nI i))], [.int ((nI i) + 3), .retAddr 0, .int 0, .int (xs (i + 1)), .ref 69, .int a])) (h' := zH v1 w1 t) rfl ?_
          rw [show (nI i) + 3 = nI (i + 3) from nI_add i 3]
          refine zx.ob (f' := (1371, [(0, .retAddr 0), (1, .ref 0), (2, .ref 69), (3, .ref 86), (4, .int (nI i))], [.int (xs (nI (i + 3)).toNatClampNeg), .int 0, .int (xs (i + 1)), .ref 69, .int a])) (h' := zH v1 w1 t) rfl (zk_inN (show (i + 3) < Ls by omega) (by omega)) ?_
          rw [nI_clamp (show (i + 3) < 2 ^ 31 by omega)]
          refine zx.br (f1 := (1378, [(0, .retAddr 0), (1, .ref 0), (2, .ref 69), (3, .ref 86), (4, .int (nI i))], [.int 0, .int (xs (i + 1)), .ref 69, .int a])) (f2 := (1374, [(0, .retAddr 0), (1, .ref 0), (2, .ref 69), (3, .ref 86), (4, .int (nI i))], [.int 0, .int (xs (i + 1)), .ref 69, .int a])) rfl (fun c19 => absurd (of_decide_eq_true c19) c3) (fun c19 => ?_)
          refine zx.adv 6 (f' := (1384, [(0, .retAddr 0), (1, .ref 0), (2, .ref 69), (3, .ref 86), (4, .int (nI i))], [.int ((nI i) + 4), .retAddr 0, .int 1, .int 0, .int (xs (i + 1)), .ref 69, .int a])) (h' := zH v1 w1 t) rfl ?_
          rw [show (nI i) + 4 = nI (i + 4) from nI_add i 4]
          refine zx.ob (f' := (1385, [(0, .retAddr 0), (1, .ref 0), (2, .ref 69), (3, .ref 86), (4, .int (nI i))], [.int (xs (nI (i + 4)).toNatClampNeg), .int 1, .int 0, .int (xs (i + 1)), .ref 69, .int a])) (h' := zH v1 w1 t) rfl (zk_inN (show (i + 4) < Ls by omega) (by omega)) ?_
          rw [nI_clamp (show (i + 4) < 2 ^ 31 by omega)]
          refine zx.br (f1 := (1392, [(0, .retAddr 0), (1, .ref 0), (2, .ref 69), (3, .ref 86), (4, .int (nI i))], [.int 1, .int 0, .int (xs (i + 1)), .ref 69, .int a])) (f2 := (1388, [(0, .retAddr 0), (1, .ref 0), (2, .ref 69), (3, .ref 86), (4, .int (nI i))], [.int 1, .int 0, .int (xs (i + 1)), .ref 69, .int a])) rfl (fun c20 => absurd (of_decide_eq_true c20) c13) (fun c20 => ?_)
          refine zx.adv 2 (f' := (1393, [(0, .retAddr 0), (1, .ref 0), (2, .ref 69), (3, .ref 86), (4, .int (nI i))], [.int 1, .int 1, .int 0, .int (xs (i + 1)), .ref 69, .int a])) (h' := zH v1 w1 t) rfl ?_
          refine zx.cl (v := some (.int a)) (h' := zH v2 w2 t) rfl h2 ?_
          show zx zk_mt zk_ex Ls xs zm_311 (1396, [(0, .retAddr 0), (1, .ref 0), (2, .ref 69), (3, .ref 86), (4, .int (nI i))], [.int a, .int a]) (zH v2 w2 t) _
          refine zx.br (f1 := (1927, [(0, .retAddr 0), (1, .ref 0), (2, .ref 69), (3, .ref 86), (4, .int (nI i))], [])) (f2 := (1399, [(0, .retAddr 0), (1, .ref 0), (2, .ref 69), (3, .ref 86), (4, .int (nI i))], [])) rfl (fun c21 => ?_) (fun c21 => absurd rfl (of_decide_eq_false c21))
          refine zx.adv 1 (f' := (1930, [(0, .retAddr 0), (1, .ref 0), (2, .ref 69), (3, .ref 86), (4, .int ((nI i) + 6))], [])) (h' := zH v2 w2 t) rfl ?_
          rw [show (nI i) + 6 = nI (i + 6) from nI_add i 6]
          refine zx.adv 1 (f' := (23, [(0, .retAddr 0), (1, .ref 0), (2, .ref 69), (3, .ref 86), (4, .int (nI (i + 6)))], [])) (h' := zH v2 w2 t) rfl ?_
          exact hQ v2 w2 t (by omega) (by omega) hj
  · have c2 : ¬ ((xs (i + 2)) = 0) := of_decide_eq_false c2
    refine zx.adv 6 (f' := (1318, [(0, .retAddr 0), (1, .ref 0), (2, .ref 69), (3, .ref 86), (4, .int (nI i))], [.int ((nI i) + 3), .retAddr 0, .int 1, .int (xs (i + 1)), .ref 0])) (h' := zH v w t) rfl ?_
    rw [show (nI i) + 3 = nI (i + 3) from nI_add i 3]
    refine zx.ob (f' := (1319, [(0, .retAddr 0), (1, .ref 0), (2, .ref 69), (3, .ref 86), (4, .int (nI i))], [.int (xs (nI (i + 3)).toNatClampNeg), .int 1, .int (xs (i + 1)), .ref 0])) (h' := zH v w t) rfl (zk_inN (show (i + 3) < Ls by omega) (by omega)) ?_
    rw [nI_clamp (show (i + 3) < 2 ^ 31 by omega)]
    refine zx.br (f1 := (1326, [(0, .retAddr 0), (1, .ref 0), (2, .ref 69), (3, .ref 86), (4, .int (nI i))], [.int 1, .int (xs (i + 1)), .ref 0])) (f2 := (1322, [(0, .retAddr 0), (1, .ref 0), (2, .ref 69), (3, .ref 86), (4, .int (nI i))], [.int 1, .int (xs (i + 1)), .ref 0])) rfl (fun c22 => ?_) (fun c22 => ?_)
    · have c22 : (xs (i + 3)) = 0 := of_decide_eq_true c22
      refine zx.adv 5 (f' := (1332, [(0, .retAddr 0), (1, .ref 0), (2, .ref 69), (3, .ref 86), (4, .int (nI i))], [.int ((nI i) + 4), .retAddr 0, .int 0, .int 1, .int (xs (i + 1)), .ref 0])) (h' := zH v w t) rfl ?_
      rw [show (nI i) + 4 = nI (i + 4) from nI_add i 4]
      refine zx.ob (f' := (1333, [(0, .retAddr 0), (1, .ref 0), (2, .ref 69), (3, .ref 86), (4, .int (nI i))], [.int (xs (nI (i + 4)).toNatClampNeg), .int 0, .int 1, .int (xs (i + 1)), .ref 0])) (h' := zH v w t) rfl (zk_inN (show (i + 4) < Ls by omega) (by omega)) ?_
      rw [nI_clamp (show (i + 4) < 2 ^ 31 by omega)]
      refine zx.br (f1 := (1340, [(0, .retAddr 0), (1, .ref 0), (2, .ref 69), (3, .ref 86), (4, .int (nI i))], [.int 0, .int 1, .int (xs (i + 1)), .ref 0])) (f2 := (1336, [(0, .retAddr 0), (1, .ref 0), (2, .ref 69), (3, .ref 86), (4, .int (nI i))], [.int 0, .int 1, .int (xs (i + 1)), .ref 0])) rfl (fun c23 => ?_) (fun c23 => ?_)
      · have c23 : (xs (i + 4)) = 0 := of_decide_eq_true c23
        refine zx.adv 1 (f' := (1341, [(0, .retAddr 0), (1, .ref 0), (2, .ref 69), (3, .ref 86), (4, .int (nI i))], [.int 0, .int 0, .int 1, .int (xs (i + 1)), .ref 0])) (h' := zH v w t) rfl ?_
        skip
        · obtain ⟨a, v1, w1, v2, w2, h1, h2, hj⟩ := (zT_holds (Ls := Ls) (xs := xs) (t := t) h (xs (i + 1)) 1 0 0).i rfl rfl (Or.inl rfl)
          refine zx.cl (v := some (.int a)) (h' := zH v1 w1 t) rfl h1 ?_
          show zx zk_mt zk_ex Ls xs zm_311 (1344, [(0, .retAddr 0), (1, .ref 0), (2, .ref 69), (3, .ref 86), (4, .int (nI i))], [.int a]) (zH v1 w1 t) _
          refine zx.adv 5 (f' := (1350, [(0, .retAddr 0), (1, .ref 0), (2, .ref 69), (3, .ref 86), (4, .int (nI i))], [.int ((nI i) + 1), .retAddr 0, .ref 69, .int a])) (h' := zH v1 w1 t) rfl ?_
          rw [show (nI i) + 1 = nI (i + 1) from nI_add i 1]
          refine zx.ob (f' := (1351, [(0, .retAddr 0), (1, .ref 0), (2, .ref 69), (3, .ref 86), (4, .int (nI i))], [.int (xs (nI (i + 1)).toNatClampNeg), .ref 69, .int a])) (h' := zH v1 w1 t) rfl (zk_inN (show (i + 1) < Ls by omega) (by omega)) ?_
          rw [nI_clamp (show (i + 1) < 2 ^ 31 by omega)]
          refine zx.adv 4 (f' := (1356, [(0, .retAddr 0), (1, .ref 0), (2, .ref 69), (3, .ref 86), (4, .int (nI i))], [.int ((nI i) + 2), .retAddr 0, .int (xs (i + 1)), .ref 69, .int a])) (h' := zH v1 w1 t) rfl ?_
          rw [show (nI i) + 2 = nI (i + 2) from nI_add i 2]
          refine zx.ob (f' := (1357, [(0, .retAddr 0), (1, .ref 0), (2, .ref 69), (3, .ref 86), (4, .int (nI i))], [.int (xs (nI (i + 2)).toNatClampNeg), .int (xs (i + 1)), .ref 69, .int a])) (h' := zH v1 w1 t) rfl (zk_inN (show (i + 2) < Ls by omega) (by omega)) ?_
          rw [nI_clamp (show (i + 2) < 2 ^ 31 by omega)]
          refine zx.br (f1 := (1364, [(0, .retAddr 0), (1, .ref 0), (2, .ref 69), (3, .ref 86), (4, .int (nI i))], [.int (xs (i + 1)), .ref 69, .int a])) (f2 := (1360, [(0, .retAddr 0), (1, .ref 0), (2, .ref 69), (3, .ref 86), (4, .int (nI i))], [.int (xs (i + 1)), .ref 69, .int a])) rfl (fun c24 => absurd (of_decide_eq_true c24) c2) (fun c24 => ?_)
          refine zx.adv 6 (f' := (1370, [(0, .retAddr 0), (1, .ref 0), (2, .ref 69), (3, .ref 86), (4, .int (nI i))], [.int ((nI i) + 3), .retAddr 0, .int 1, .int (xs (i + 1)), .ref 69, .int a])) (h' := zH v1 w1 t) rfl ?_
          rw [show (nI i) + 3 = nI (i + 3) from nI_add i 3]
          refine zx.ob (f' := (1371, [(0, .retAddr 0), (1, .ref 0), (2, .ref 69), (3, .ref 86), (4, .int (nI i))], [.int (xs (nI (i + 3)).toNatClampNeg), .int 1, .int (xs (i + 1)), .ref 69, .int a])) (h' := zH v1 w1 t) rfl (zk_inN (show (i + 3) < Ls by omega) (by omega)) ?_
          rw [nI_clamp (show (i + 3) < 2 ^ 31 by omega)]
          refine zx.br (f1 := (1378, [(0, .retAddr 0), (1, .ref 0), (2, .ref 69), (3, .ref 86), (4, .int (nI i))], [.int 1, .int (xs (i + 1)), .ref 69, .int a])) (f2 := (1374, [(0, .retAddr 0), (1, .ref 0), (2, .ref 69), (3, .ref 86), (4, .int (nI i))], [.int 1, .int (xs (i + 1)), .ref 69, .int a])) rfl (fun c25 => ?_) (fun c25 => absurd c22 (of_decide_eq_false c25))
          refine zx.adv 5 (f' := (1384, [(0, .retAddr 0), (1, .ref 0), (2, .ref 69), (3, .ref 86), (4, .int (nI i))], [.int ((nI i) + 4), .retAddr 0, .int 0, .int 1, .int (xs (i + 1)), .ref 69, .int a])) (h' := zH v1 w1 t) rfl ?_
          rw [show (nI i) + 4 = nI (i + 4) from nI_add i 4]
          refine zx.ob (f' := (1385, [(0, .retAddr 0), (1, .ref 0), (2, .ref 69), (3, .ref 86), (4, .int (nI i))], [.int (xs (nI (i + 4)).toNatClampNeg), .int 0, .int 1, .int (xs (i + 1)), .ref 69, .int a])) (h' := zH v1 w1 t) rfl (zk_inN (show (i + 4) < Ls by omega) (by omega)) ?_
          rw [nI_clamp (show (i + 4) < 2 ^ 31 by omega)]
          refine zx.br (f1 := (1392, [(0, .retAddr 0), (1, .ref 0), (2, .ref 69), (3, .ref 86), (4, .int (nI i))], [.int 0, .int 1, .int (xs (i + 1)), .ref 69, .int a])) (f2 := (1388, [(0, .retAddr 0), (1, .ref 0), (2, .ref 69), (3, .ref 86), (4, .int (nI i))], [.int 0, .int 1, .int (xs (i + 1)), .ref 69, .int a])) rfl (fun c26 => ?_) (fun c26 => absurd c23 (of_decide_eq_false c26))
          refine zx.adv 1 (f' := (1393, [(0, .retAddr 0), (1, .ref 0), (2, .ref 69), (3, .ref 86), (4, .int (nI i))], [.int 0, .int 0, .int 1, .int (xs (i + 1)), .ref 69, .int a])) (h' := zH v1 w1 t) rfl ?_
          refine zx.cl (v := some (.int a)) (h' := zH v2 w2 t) rfl h2 ?_
          show zx zk_mt zk_ex Ls xs zm_311 (1396, [(0, .retAddr 0), (1, .ref 0), (2, .ref 69), (3, .ref 86), (4, .int (nI i))], [.int a, .int a]) (zH v2 w2 t) _
          refine zx.br (f1 := (1927, [(0, .retAddr 0), (1, .ref 0), (2, .ref 69), (3, .ref 86), (4, .int (nI i))], [])) (f2 := (1399, [(0, .retAddr 0), (1, .ref 0), (2, .ref 69), (3, .ref 86), (4, .int (nI i))], [])) rfl (fun c27 => ?_) (fun c27 => absurd rfl (of_decide_eq_false c27))
          refine zx.adv 1 (f' := (1930, [(0, .retAddr 0), (1, .ref 0), (2, .ref 69), (3, .ref 86), (4, .int ((nI i) + 6))], [])) (h' := zH v2 w2 t) rfl ?_
          rw [show (nI i) + 6 = nI (i + 6) from nI_add i 6]
          refine zx.adv 1 (f' := (23, [(0, .retAddr 0), (1, .ref 0), (2, .ref 69), (3, .ref 86), (4, .int (nI (i + 6)))], [])) (h' := zH v2 w2 t) rfl ?_
          exact hQ v2 w2 t (by omega) (by omega) hj
      · have c23 : ¬ ((xs (i + 4)) = 0) := of_decide_eq_false c23
        refine zx.adv 2 (f' := (1341, [(0, .retAddr 0), (1, .ref 0), (2, .ref 69), (3, .ref 86), (4, .int (nI i))], [.int 1, .int 0, .int 1, .int (xs (i + 1)), .ref 0])) (h' := zH v w t) rfl ?_
        skip
        · obtain ⟨a, v1, w1, v2, w2, h1, h2, hj⟩ := (zT_holds (Ls := Ls) (xs := xs) (t := t) h (xs (i + 1)) 1 0 1).i rfl rfl (Or.inl rfl)
          refine zx.cl (v := some (.int a)) (h' := zH v1 w1 t) rfl h1 ?_
          show zx zk_mt zk_ex Ls xs zm_311 (1344, [(0, .retAddr 0), (1, .ref 0), (2, .ref 69), (3, .ref 86), (4, .int (nI i))], [.int a]) (zH v1 w1 t) _
          refine zx.adv 5 (f' := (1350, [(0, .retAddr 0), (1, .ref 0), (2, .ref 69), (3, .ref 86), (4, .int (nI i))], [.int ((nI i) + 1), .retAddr 0, .ref 69, .int a])) (h' := zH v1 w1 t) rfl ?_
          rw [show (nI i) + 1 = nI (i + 1) from nI_add i 1]
          refine zx.ob (f' := (1351, [(0, .retAddr 0), (1, .ref 0), (2, .ref 69), (3, .ref 86), (4, .int (nI i))], [.int (xs (nI (i + 1)).toNatClampNeg), .ref 69, .int a])) (h' := zH v1 w1 t) rfl (zk_inN (show (i + 1) < Ls by omega) (by omega)) ?_
          rw [nI_clamp (show (i + 1) < 2 ^ 31 by omega)]
          refine zx.adv 4 (f' := (1356, [(0, .retAddr 0), (1, .ref 0), (2, .ref 69), (3, .ref 86), (4, .int (nI i))], [.int ((nI i) + 2), .retAddr 0, .int (xs (i + 1)), .ref 69, .int a])) (h' := zH v1 w1 t) rfl ?_
          rw [show (nI i) + 2 = nI (i + 2) from nI_add i 2]
          refine zx.ob (f' := (1357, [(0, .retAddr 0), (1, .ref 0), (2, .ref 69), (3, .ref 86), (4, .int (nI i))], [.int (xs (nI (i + 2)).toNatClampNeg), .int (xs (i + 1)), .ref 69, .int a])) (h' := zH v1 w1 t) rfl (zk_inN (show (i + 2) < Ls by omega) (by omega)) ?_
          rw [nI_clamp (show (i + 2) < 2 ^ 31 by omega)]
          refine zx.br (f1 := (1364, [(0, .retAddr 0), (1, .ref 0), (2, .ref 69), (3, .ref 86), (4, .int (nI i))], [.int (xs (i + 1)), .ref 69, .int a])) (f2 := (1360, [(0, .retAddr 0), (1, .ref 0), (2, .ref 69), (3, .ref 86), (4, .int (nI i))], [.int (xs (i + 1)), .ref 69, .int a])) rfl (fun c28 => absurd (of_decide_eq_true c28) c2) (fun c28 => ?_)
          refine zx.adv 6 (f' := (1370, [(0, .retAddr 0), (1, .ref 0), (2, .ref 69), (3, .ref 86), (4, .int (nI i))], [.int ((nI i) + 3), .retAddr 0, .int 1, .int (xs (i + 1)), .ref 69, .int a])) (h' := zH v1 w1 t) rfl ?_
          rw [show (nI i) + 3 = nI (i + 3) from nI_add i 3]
          refine zx.ob (f' := (1371, [(0, .retAddr 0), (1, .ref 0), (2, .ref 69), (3, .ref 86), (4, .int (nI i))], [.int (xs (nI (i + 3)).toNatClampNeg), .int 1, .int (xs (i + 1)), .ref 69, .int a])) (h' := zH v1 w1 t) rfl (zk_inN (show (i + 3) < Ls by omega) (by omega)) ?_
          rw [nI_clamp (show (i + 3) < 2 ^ 31 by omega)]
          refine zx.br (f1 := (1378, [(0, .retAddr 0), (1, .ref 0), (2, .ref 69), (3, .ref 86), (4, .int (nI i))], [.int 1, .int (xs (i + 1)), .ref 69, .int a])) (f2 := (1374, [(0, .retAddr 0), (1, .ref 0), (2, .ref 69), (3, .ref 86), (4, .int (nI i))], [.int 1, .int (xs (i + 1)), .ref 69, .int a])) rfl (fun c29 => ?_) (fun c29 => absurd c22 (of_decide_eq_false c29))
          refine zx.adv 5 (f' := (1384, [(0, .retAddr 0), (1, .ref 0), (2, .ref 69), (3, .ref 86), (4, .int (nI i))], [.int ((nI i) + 4), .retAddr 0, .int 0, .int 1, .int (xs (i + 1)), .ref 69, .int a])) (h' := zH v1 w1 t) rfl ?_
          rw [show (nI i) + 4 = nI (i + 4) from nI_add i 4]
          refine zx.ob (f' := (1385, [(0, .retAddr 0), (1, .ref 0), (2, .ref 69), (3, .ref 86), (4, .int (nI i))], [.int (xs (nI (i + 4)).toNatClampNeg), .int 0, .int 1, .int (xs (i + 1)), .ref 69, .int a])) (h' := zH v1 w1 t) rfl (zk_inN (show (i + 4) < Ls by omega) (by omega)) ?_
          rw [nI_clamp (show (i + 4) < 2 ^ 31 by omega)]
          refine zx.br (f1 := (1392, [(0, .retAddr 0), (1, .ref 0), (2, .ref 69), (3, .ref 86), (4, .int (nI i))], [.int 0, .int 1, .int (xs (i + 1)), .ref 69, .int a])) (f2 := (1388, [(0, .retAddr 0), (1, .ref 0), (2, .ref 69), (3, .ref 86), (4, .int (nI i))], [.int 0, .int 1, .int (xs (i + 1)), .ref 69, .int a])) rfl (fun c30 => absurd (of_decide_eq_true c30) c23) (fun c30 => ?_)
          refine zx.adv 2 (f' := (1393, [(0, .retAddr 0), (1, .ref 0), (2, .ref 69), (3, .ref 86), (4, .int (nI i))], [.int 1, .int 0, .int 1, .int (xs (i + 1)), .ref 69, .int a])) (h' := zH v1 w1 t) rfl ?_
          refine zx.cl (v := some (.int a)) (h' := zH v2 w2 t) rfl h2 ?_
          show zx zk_mt zk_ex Ls xs zm_311 (1396, [(0, .retAddr 0), (1, .ref 0), (2, .ref 69), (3, .ref 86), (4, .int (nI i))], [.int a, .int a]) (zH v2 w2 t) _
          refine zx.br (f1 := (1927, [(0, .retAddr 0), (1, .ref 0), (2, .ref 69), (3, .ref 86), (4, .int (nI i))], [])) (f2 := (1399, [(0, .retAddr 0), (1, .ref 0), (2, .ref 69), (3, .ref 86), (4, .int (nI i))], [])) rfl (fun c31 => ?_) (fun c31 => absurd rfl (of_decide_eq_false c31))
          refine zx.adv 1 (f' := (1930, [(0, .retAddr 0), (1, .ref 0), (2, .ref 69), (3, .ref 86), (4, .int ((nI i) + 6))], [])) (h' := zH v2 w2 t) rfl ?_
          rw [show (nI i) + 6 = nI (i + 6) from nI_add i 6]
          refine zx.adv 1 (f' := (23, [(0, .retAddr 0), (1, .ref 0), (2, .ref 69), (3, .ref 86), (4, .int (nI (i + 6)))], [])) (h' := zH v2 w2 t) rfl ?_
          exact hQ v2 w2 t (by omega) (by omega) hj
    · have c22 : ¬ ((xs (i + 3)) = 0) := of_decide_eq_false c22
      refine zx.adv 6 (f' := (1332, [(0, .retAddr 0), (1, .ref 0), (2, .ref 69), (3, .ref 86), (4, .int (nI i))], [.int ((nI i) + 4), .retAddr 0, .int 1, .int 1, .int (xs (i + 1)), .ref 0])) (h' := zH v w t) rfl ?_
      rw [show (nI i) + 4 = nI (i + 4) from nI_add i 4]
      refine zx.ob (f' := (1333, [(0, .retAddr 0), (1, .ref 0), (2, .ref 69), (3, .ref 86), (4, .int (nI i))], [.int (xs (nI (i + 4)).toNatClampNeg), .int 1, .int 1, .int (xs (i + 1)), .ref 0])) (h' := zH v w t) rfl (zk_inN (show (i + 4) < Ls by omega) (by omega)) ?_
      rw [nI_clamp (show (i + 4) < 2 ^ 31 by omega)]
      refine zx.br (f1 := (1340, [(0, .retAddr 0), (1, .ref 0), (2, .ref 69), (3, .ref 86), (4, .int (nI i))], [.int 1, .int 1, .int (xs (i + 1)), .ref 0])) (f2 := (1336, [(0, .retAddr 0), (1, .ref 0), (2, .ref 69), (3, .ref 86), (4, .int (nI i))], [.int 1, .int 1, .int (xs (i + 1)), .ref 0])) rfl (fun c32 => ?_) (fun c32 => ?_)
      · have c32 : (xs (i + 4)) = 0 := of_decide_eq_true c32
        refine zx.adv 1 (f' := (1341, [(0, .retAddr 0), (1, .ref 0), (2, .ref 69), (3, .ref 86), (4, .int (nI i))], [.int 0, .int 1, .int 1, .int (xs (i + 1)), .ref 0])) (h' := zH v w t) rfl ?_
        skip
        · obtain ⟨a, v1, w1, v2, w2, h1, h2, hj⟩ := (zT_holds (Ls := Ls) (xs := xs) (t := t) h (xs (i + 1)) 1 1 0).i rfl rfl (Or.inl rfl)
          refine zx.cl (v := some (.int a)) (h' := zH v1 w1 t) rfl h1 ?_
          show zx zk_mt zk_ex Ls xs zm_311 (1344, [(0, .retAddr 0), (1, .ref 0), (2, .ref 69), (3, .ref 86), (4, .int (nI i))], [.int a]) (zH v1 w1 t) _
          refine zx.adv 5 (f' := (1350, [(0, .retAddr 0), (1, .ref 0), (2, .ref 69), (3, .ref 86), (4, .int (nI i))], [.int ((nI i) + 1), .retAddr 0, .ref 69, .int a])) (h' := zH v1 w1 t) rfl ?_
          rw [show (nI i) + 1 = nI (i + 1) from nI_add i 1]
          refine zx.ob (f' := (1351, [(0, .retAddr 0), (1, .ref 0), (2, .ref 69), (3, .ref 86), (4, .int (nI i))], [.int (xs (nI (i + 1)).toNatClampNeg), .ref 69, .int a])) (h' := zH v1 w1 t) rfl (zk_inN (show (i + 1) < Ls by omega) (by omega)) ?_
          rw [nI_clamp (show (i + 1) < 2 ^ 31 by omega)]
          refine zx.adv 4 (f' := (1356, [(0, .retAddr 0), (1, .ref 0), (2, .ref 69), (3, .ref 86), (4, .int (nI i))], [.int ((nI i) + 2), .retAddr 0, .int (xs (i + 1)), .ref 69, .int a])) (h' := zH v1 w1 t) rfl ?_
          rw [show (nI i) + 2 = nI (i + 2) from nI_add i 2]
          refine zx.ob (f' := (1357, [(0, .retAddr 0), (1, .ref 0), (2, .ref 69), (3, .ref 86), (4, .int (nI i))], [.int (xs (nI (i + 2)).toNatClampNeg), .int (xs (i + 1)), .ref 69, .int a])) (h' := zH v1 w1 t) rfl (zk_inN (show (i + 2) < Ls by omega) (by omega)) ?_
          rw [nI_clamp (show (i + 2) < 2 ^ 31 by omega)]
          refine zx.br (f1 := (1364, [(0, .retAddr 0), (1, .ref 0), (2, .ref 69), (3, .ref 86), (4, .int (nI i))], [.int (xs (i + 1)), .ref 69, .int a])) (f2 := (1360, [(0, .retAddr 0), (1, .ref 0), (2, .ref 69), (3, .ref 86), (4, .int (nI i))], [.int (xs (i + 1)), .ref 69, .int a])) rfl (fun c33 => absurd (of_decide_eq_true c33) c2) (fun c33 => ?_)
          refine zx.adv 6 (f' := (1370, [(0, .retAddr 0), (1, .ref 0), (2, .ref 69), (3, .ref 86), (4, .int (nI i))], [.int ((nI i) + 3), .retAddr 0, .int 1, .int (xs (i + 1)), .ref 69, .int a])) (h' := zH v1 w1 t) rfl ?_
          rw [show (nI i) + 3 = nI (i + 3) from nI_add i 3]
          refine zx.ob (f' := (1371, [(0, .retAddr 0), (1, .ref 0), (2, .ref 69), (3, .ref 86), (4, .int (nI i))], [.int (xs (nI (i + 3)).toNatClampNeg), .int 1, .int (xs (i + 1)), .ref 69, .int a])) (h' := zH v1 w1 t) rfl (zk_inN (show (i + 3) < Ls by omega) (by omega)) ?_
          rw [nI_clamp (show (i + 3) < 2 ^ 31 by omega)]
          refine zx.br (f1 := (1378, [(0, .retAddr 0), (1, .ref 0), (2, .ref 69), (3, .ref 86), (4, .int (nI i))], [.int 1, .int (xs (i + 1)), .ref 69, .int a])) (f2 := (1374, [(0, .retAddr 0), (1, .ref 0), (2, .ref 69), (3, .ref 86), (4, .int (nI i))], [.int 1, .int (xs (i + 1)), .ref 69, .int a])) rfl (fun c34 => absurd (of_decide_eq_true c34) c22) (fun c34 => ?_)
          refine zx.adv 6 (f' := (1384, [(0, .retAddr 0), (1, .ref 0), (2, .ref 69), (3, .ref 86), (4, .int (nI i))], [.int ((nI i) + 4), .retAddr 0, .int 1, .int 1, .int (xs (i + 1)), .ref 69, .int a])) (h' := zH v1 w1 t) rfl ?_
          rw [show (nI i) + 4 = nI (i + 4) from nI_add i 4]
          refine zx.ob (f' := (1385, [(0, .retAddr 0), (1, .ref 0), (2, .ref 69), (3, .ref 86), (4, .int (nI i))], [.int (xs (nI (i + 4)).toNatClampNeg), .int 1, .int 1, .int (xs (i + 1)), .ref 69, .int a])) (h' := zH v1 w1 t) rfl (zk_inN (show (i + 4) < Ls by omega) (by omega)) ?_
          rw [nI_clamp (show (i + 4) < 2 ^ 31 by omega)]
          refine zx.br (f1 := (1392, [(0, .retAddr 0), (1, .ref 0), (2, .ref 69), (3, .ref 86), (4, .int (nI i))], [.int 1, .int 1, .int (xs (i + 1)), .ref 69, .int a])) (f2 := (1388, [(0, .retAddr 0), (1, .ref 0), (2, .ref 69), (3, .ref 86), (4, .int (nI i))], [.int 1, .int 1, .int (xs (i + 1)), .ref 69, .int a])) rfl (fun c35 => ?_) (fun c35 => absurd c32 (of_decide_eq_false c35))
          refine zx.adv 1 (f' := (1393, [(0, .retAddr 0), (1, .ref 0), (2, .ref 69), (3, .ref 86), (4, .int (nI i))], [.int 0, .int 1, .int 1, .int (xs (i + 1)), .ref 69, .int a])) (h' := zH v1 w1 t) rfl ?_
          refine zx.cl (v := some (.int a)) (h' := zH v2 w2 t) rfl h2 ?_
          show zx zk_mt zk_ex Ls xs zm_311 (1396, [(0, .retAddr 0), (1, .ref 0), (2, .ref 69), (3, .ref 86), (4, .int (nI i))], [.int a, .int a]) (zH v2 w2 t) _
          refine zx.br (f1 := (1927, [(0, .retAddr 0), (1, .ref 0), (2, .ref 69), (3, .ref 86), (4, .int (nI i))], [])) (f2 := (1399, [(0, .retAddr 0), (1, .ref 0), (2, .ref 69), (3, .ref 86), (4, .int (nI i))], [])) rfl (fun c36 => ?_) (fun c36 => absurd rfl (of_decide_eq_false c36))
          refine zx.adv 1 (f' := (1930, [(0, .retAddr 0), (1, .ref 0), (2, .ref 69), (3, .ref 86), (4, .int ((nI i) + 6))], [])) (h' := zH v2 w2 t) rfl ?_
          rw [show (nI i) + 6 = nI (i + 6) from nI_add i 6]
          refine zx.adv 1 (f' := (23, [(0, .retAddr 0), (1, .ref 0), (2, .ref 69), (3, .ref 86), (4, .int (nI (i + 6)))], [])) (h' := zH v2 w2 t) rfl ?_
          exact hQ v2 w2 t (by omega) (by omega) hj
      · have c32 : ¬ ((xs (i + 4)) = 0) := of_decide_eq_false c32
        refine zx.adv 2 (f' := (1341, [(0, .retAddr 0), (1, .ref 0), (2, .ref 69), (3, .ref 86), (4, .int (nI i))], [.int 1, .int 1, .int 1, .int (xs (i + 1)), .ref 0])) (h' := zH v w t) rfl ?_
        skip
        · obtain ⟨a, v1, w1, v2, w2, h1, h2, hj⟩ := (zT_holds (Ls := Ls) (xs := xs) (t := t) h (xs (i + 1)) 1 1 1).i rfl rfl (Or.inl rfl)
          refine zx.cl (v := some (.int a)) (h' := zH v1 w1 t) rfl h1 ?_
          show zx zk_mt zk_ex Ls xs zm_311 (1344, [(0, .retAddr 0), (1, .ref 0), (2, .ref 69), (3, .ref 86), (4, .int (nI i))], [.int a]) (zH v1 w1 t) _
          refine zx.adv 5 (f' := (1350, [(0, .retAddr 0), (1, .ref 0), (2, .ref 69), (3, .ref 86), (4, .int (nI i))], [.int ((nI i) + 1), .retAddr 0, .ref 69, .int a])) (h' := zH v1 w1 t) rfl ?_
          rw [show (nI i) + 1 = nI (i + 1) from nI_add i 1]
          refine zx.ob (f' := (1351, [(0, .retAddr 0), (1, .ref 0), (2, .ref 69), (3, .ref 86), (4, .int (nI i))], [.int (xs (nI (i + 1)).toNatClampNeg), .ref 69, .int a])) (h' := zH v1 w1 t) rfl (zk_inN (show (i + 1) < Ls by omega) (by omega)) ?_
          rw [nI_clamp (show (i + 1) < 2 ^ 31 by omega)]
          refine zx.adv 4 (f' := (1356, [(0, .retAddr 0), (1, .ref 0), (2, .ref 69), (3, .ref 86), (4, .int (nI i))], [.int ((nI i) + 2), .retAddr 0, .int (xs (i + 1)), .ref 69, .int a])) (h' := zH v1 w1 t) rfl ?_
          rw [show (nI i) + 2 = nI (i + 2) from nI_add i 2]
          refine zx.ob (f' := (1357, [(0, .retAddr 0), (1, .ref 0), (2, .ref 69), (3, .ref 86), (4, .int (nI i))], [.int (xs (nI (i + 2)).toNatClampNeg), .int (xs (i + 1)), .ref 69, .int a])) (h' := zH v1 w1 t) rfl (zk_inN (show (i + 2) < Ls by omega) (by omega)) ?_
          rw [nI_clamp (show (i + 2) < 2 ^ 31 by omega)]
          refine zx.br (f1 := (1364, [(0, .retAddr 0), (1, .ref 0), (2, .ref 69), (3, .ref 86), (4, .int (nI i))], [.int (xs (i + 1)), .ref 69, .int a])) (f2 := (1360, [(0, .retAddr 0), (1, .ref 0), (2, .ref 69), (3, .ref 86), (4, .int (nI i))], [.int (xs (i + 1)), .ref 69, .int a])) rfl (fun c37 => absurd (of_decide_eq_true c37) c2) (fun c37 => ?_)
          refine zx.adv 6 (f' := (1370, [(0, .retAddr 0), (1, .ref 0), (2, .ref 69), (3, .ref 86), (4, .int (nI i))], [.int ((nI i) + 3), .retAddr 0, .int 1, .int (xs (i + 1)), .ref 69, .int a])) (h' := zH v1 w1 t) rfl ?_
          rw [show (nI i) + 3 = nI (i + 3) from nI_add i 3]
          refine zx.ob (f' := (1371, [(0, .retAddr 0), (1, .ref 0), (2, .ref 69), (3, .ref 86), (4, .int (nI i))], [.int (xs (nI (i + 3)).toNatClampNeg), .int 1, .int (xs (i + 1)), .ref 69, .int a])) (h' := zH v1 w1 t) rfl (zk_inN (show (i + 3) < Ls by omega) (by omega)) ?_
          rw [nI_clamp (show (i + 3) < 2 ^ 31 by omega)]
          refine zx.br (f1 := (1378, [(0, .retAddr 0), (1, .ref 0), (2, .ref 69), (3, .ref 86), (4, .int (nI i))], [.int 1, .int (xs (i + 1)), .ref 69, .int a])) (f2 := (1374, [(0, .retAddr 0), (1, .ref 0), (2, .ref 69), (3, .ref 86), (4, .int (nI i))], [.int 1, .int (xs (i + 1)), .ref 69, .int a])) rfl (fun c38 => absurd (of_decide_eq_true c38) c22) (fun c38 => ?_)
          refine zx.adv 6 (f' := (1384, [(0, .retAddr 0), (1, .ref 0), (2, .ref 69), (3, .ref 86), (4, .int (nI i))], [.int ((nI i) + 4), .retAddr 0, .int 1, .int 1, .int (xs (i + 1)), .ref 69, .int a])) (h' := zH v1 w1 t) rfl ?_
          rw [show (nI i) + 4 = nI (i + 4) from nI_add i 4]
          refine zx.ob (f' := (1385, [(0, .retAddr 0), (1, .ref 0), (2, .ref 69), (3, .ref 86), (4, .int (nI i))], [.int (xs (nI (i + 4)).toNatClampNeg), .int 1, .int 1, .int (xs (i + 1)), .ref 69, .int a])) (h' := zH v1 w1 t) rfl (zk_inN (show (i + 4) < Ls by omega) (by omega)) ?_
          rw [nI_clamp (show (i + 4) < 2 ^ 31 by omega)]
          refine zx.br (f1 := (1392, [(0, .retAddr 0), (1, .ref 0), (2, .ref 69), (3, .ref 86), (4, .int (nI i))], [.int 1, .int 1, .int (xs (i + 1)), .ref 69, .int a])) (f2 := (1388, [(0, .retAddr 0), (1, .ref 0), (2, .ref 69), (3, .ref 86), (4, .int (nI i))], [.int 1, .int 1, .int (xs (i + 1)), .ref 69, .int a])) rfl (fun c39 => absurd (of_decide_eq_true c39) c32) (fun c39 => ?_)
          refine zx.adv 2 (f' := (1393, [(0, .retAddr 0), (1, .ref 0), (2, .ref 69), (3, .ref 86), (4, .int (nI i))], [.int 1, .int 1, .int 1, .int (xs (i + 1)), .ref 69, .int a])) (h' := zH v1 w1 t) rfl ?_
          refine zx.cl (v := some (.int a)) (h' := zH v2 w2 t) rfl h2 ?_
          show zx zk_mt zk_ex Ls xs zm_311 (1396, [(0, .retAddr 0), (1, .ref 0), (2, .ref 69), (3, .ref 86), (4, .int (nI i))], [.int a, .int a]) (zH v2 w2 t) _
          refine zx.br (f1 := (1927, [(0, .retAddr 0), (1, .ref 0), (2, .ref 69), (3, .ref 86), (4, .int (nI i))], [])) (f2 := (1399, [(0, .retAddr 0), (1, .ref 0), (2, .ref 69), (3, .ref 86), (4, .int (nI i))], [])) rfl (fun c40 => ?_) (fun c40 => absurd rfl (of_decide_eq_false c40))
          refine zx.adv 1 (f' := (1930, [(0, .retAddr 0), (1, .ref 0), (2, .ref 69), (3, .ref 86), (4, .int ((nI i) + 6))], [])) (h' := zH v2 w2 t) rfl ?_
          rw [show (nI i) + 6 = nI (i + 6) from nI_add i 6]
          refine zx.adv 1 (f' := (23, [(0, .retAddr 0), (1, .ref 0), (2, .ref 69), (3, .ref 86), (4, .int (nI (i + 6)))], [])) (h' := zH v2 w2 t) rfl ?_
          exact hQ v2 w2 t (by omega) (by omega) hj
theorem zlc_39 {Q : Option Value × zk_H → Prop} {i : Nat} (hL : Ls ≤ 3072) (hi : i + 6 ≤ Ls) (h : zJ v w) (hc : xs i &&& 63 = nI 39) (hQ : ∀ v2 w2 t2, t2.length ≤ t.length + 1 → zk_sl t2 ≤ zk_sl t + 6 → zJ v2 w2 → zx zk_mt zk_ex Ls xs zm_311 (23, [(0, .retAddr 0), (1, .ref 0), (2, .ref 69), (3, .ref 86), (4, .int (nI (i + 6)))], []) (zH v2 w2 t2) Q) : zx zk_mt zk_ex Ls xs zm_311 (23, [(0, .retAddr 0), (1, .ref 0), (2, .ref 69), (3, .ref 86), (4, .int (nI i))], []) (zH v w t) Q := by
  refine zx.adv 5 (f' := (30, [(0, .retAddr 0), (1, .ref 0), (2, .ref 69), (3, .ref 86), (4, .int (nI i))], [.int ((Int32.ofNat Ls) - 6), .int (nI i)])) (h' := zH v w t) rfl ?_
  refine zx.br (f1 := (1933, [(0, .retAddr 0), (1, .ref 0), (2, .ref 69), (3, .ref 86), (4, .int (nI i))], [])) (f2 := (33, [(0, .retAddr 0), (1, .ref 0), (2, .ref 69), (3, .ref 86), (4, .int (nI i))], [])) rfl (fun c1 => absurd (of_decide_eq_true c1) (zl_cmp0 hL (by omega) hi)) (fun c1 => ?_)
  refine zx.adv 2 (f' := (36, [(0, .retAddr 0), (1, .ref 0), (2, .ref 69), (3, .ref 86), (4, .int (nI i))], [.int (nI i), .retAddr 0])) (h' := zH v w t) rfl ?_
  refine zx.ob (f' := (37, [(0, .retAddr 0), (1, .ref 0), (2, .ref 69), (3, .ref 86), (4, .int (nI i))], [.int (xs (nI i).toNatClampNeg)])) (h' := zH v w t) rfl (zk_inN (show i < Ls by omega) (by omega)) ?_
  rw [nI_clamp (show i < 2 ^ 31 by omega)]
  refine zx.adv 2 (f' := (40, [(0, .retAddr 0), (1, .ref 0), (2, .ref 69), (3, .ref 86), (4, .int (nI i))], [.int ((xs i) &&& 63)])) (h' := zH v w t) rfl ?_
  rw [show (xs i) &&& 63 = 39 from hc]
  refine zx.adv 6 (f' := (1407, [(0, .retAddr 0), (1, .ref 0), (2, .ref 69), (3, .ref 86), (4, .int (nI i))], [.int ((nI i) + 1), .retAddr 0, .ref 0])) (h' := zH v w t) rfl ?_
  rw [show (nI i) + 1 = nI (i + 1) from nI_add i 1]
  refine zx.ob (f' := (1408, [(0, .retAddr 0), (1, .ref 0), (2, .ref 69), (3, .ref 86), (4, .int (nI i))], [.int (xs (nI (i + 1)).toNatClampNeg), .ref 0])) (h' := zH v w t) rfl (zk_inN (show (i + 1) < Ls by omega) (by omega)) ?_
  rw [nI_clamp (show (i + 1) < 2 ^ 31 by omega)]
  skip
  · obtain ⟨a, v1, w1, v2, w2, h1, h2, hj⟩ := (zT_rests (Ls := Ls) (xs := xs) (t := t) h (xs (i + 1))).i rfl rfl (Or.inl rfl)
    refine zx.cl (v := some (.int a)) (h' := zH v1 w1 t) rfl h1 ?_
    show zx zk_mt zk_ex Ls xs zm_311 (1411, [(0, .retAddr 0), (1, .ref 0), (2, .ref 69), (3, .ref 86), (4, .int (nI i))], [.int a]) (zH v1 w1 t) _
    refine zx.adv 5 (f' := (1417, [(0, .retAddr 0), (1, .ref 0), (2, .ref 69), (3, .ref 86), (4, .int (nI i))], [.int ((nI i) + 1), .retAddr 0, .ref 69, .int a])) (h' := zH v1 w1 t) rfl ?_
    rw [show (nI i) + 1 = nI (i + 1) from nI_add i 1]
    refine zx.ob (f' := (1418, [(0, .retAddr 0), (1, .ref 0), (2, .ref 69), (3, .ref 86), (4, .int (nI i))], [.int (xs (nI (i + 1)).toNatClampNeg), .ref 69, .int a])) (h' := zH v1 w1 t) rfl (zk_inN (show (i + 1) < Ls by omega) (by omega)) ?_
    rw [nI_clamp (show (i + 1) < 2 ^ 31 by omega)]
    refine zx.cl (v := some (.int a)) (h' := zH v2 w2 t) rfl h2 ?_
    show zx zk_mt zk_ex Ls xs zm_311 (1421, [(0, .retAddr 0), (1, .ref 0), (2, .ref 69), (3, .ref 86), (4, .int (nI i))], [.int a, .int a]) (zH v2 w2 t) _
    refine zx.br (f1 := (1927, [(0, .retAddr 0), (1, .ref 0), (2, .ref 69), (3, .ref 86), (4, .int (nI i))], [])) (f2 := (1424, [(0, .retAddr 0), (1, .ref 0), (2, .ref 69), (3, .ref 86), (4, .int (nI i))], [])) rfl (fun c2 => ?_) (fun c2 => absurd rfl (of_decide_eq_false c2))
    refine zx.adv 1 (f' := (1930, [(0, .retAddr 0), (1, .ref 0), (2, .ref 69), (3, .ref 86), (4, .int ((nI i) + 6))], [])) (h' := zH v2 w2 t) rfl ?_
    rw [show (nI i) + 6 = nI (i + 6) from nI_add i 6]
    refine zx.adv 1 (f' := (23, [(0, .retAddr 0), (1, .ref 0), (2, .ref 69), (3, .ref 86), (4, .int (nI (i + 6)))], [])) (h' := zH v2 w2 t) rfl ?_
    exact hQ v2 w2 t (by omega) (by omega) hj
theorem zlc_40 {Q : Option Value × zk_H → Prop} {i : Nat} (hL : Ls ≤ 3072) (hi : i + 6 ≤ Ls) (h : zJ v w) (hc : xs i &&& 63 = nI 40) (hQ : ∀ v2 w2 t2, t2.length ≤ t.length + 1 → zk_sl t2 ≤ zk_sl t + 6 → zJ v2 w2 → zx zk_mt zk_ex Ls xs zm_311 (23, [(0, .retAddr 0), (1, .ref 0), (2, .ref 69), (3, .ref 86), (4, .int (nI (i + 6)))], []) (zH v2 w2 t2) Q) : zx zk_mt zk_ex Ls xs zm_311 (23, [(0, .retAddr 0), (1, .ref 0), (2, .ref 69), (3, .ref 86), (4, .int (nI i))], []) (zH v w t) Q := by
  refine zx.adv 5 (f' := (30, [(0, .retAddr 0), (1, .ref 0), (2, .ref 69), (3, .ref 86), (4, .int (nI i))], [.int ((Int32.ofNat Ls) - 6), .int (nI i)])) (h' := zH v w t) rfl ?_
  refine zx.br (f1 := (1933, [(0, .retAddr 0), (1, .ref 0), (2, .ref 69), (3, .ref 86), (4, .int (nI i))], [])) (f2 := (33, [(0, .retAddr 0), (1, .ref 0), (2, .ref 69), (3, .ref 86), (4, .int (nI i))], [])) rfl (fun c1 => absurd (of_decide_eq_true c1) (zl_cmp0 hL (by omega) hi)) (fun c1 => ?_)
  refine zx.adv 2 (f' := (36, [(0, .retAddr 0), (1, .ref 0), (2, .ref 69), (3, .ref 86), (4, .int (nI i))], [.int (nI i), .retAddr 0])) (h' := zH v w t) rfl ?_
  refine zx.ob (f' := (37, [(0, .retAddr 0), (1, .ref 0), (2, .ref 69), (3, .ref 86), (4, .int (nI i))], [.int (xs (nI i).toNatClampNeg)])) (h' := zH v w t) rfl (zk_inN (show i < Ls by omega) (by omega)) ?_
  rw [nI_clamp (show i < 2 ^ 31 by omega)]
  refine zx.adv 2 (f' := (40, [(0, .retAddr 0), (1, .ref 0), (2, .ref 69), (3, .ref 86), (4, .int (nI i))], [.int ((xs i) &&& 63)])) (h' := zH v w t) rfl ?_
  rw [show (xs i) &&& 63 = 40 from hc]
  refine zx.adv 6 (f' := (1432, [(0, .retAddr 0), (1, .ref 0), (2, .ref 69), (3, .ref 86), (4, .int (nI i))], [.int ((nI i) + 1), .retAddr 0, .ref 0])) (h' := zH v w t) rfl ?_
  rw [show (nI i) + 1 = nI (i + 1) from nI_add i 1]
  refine zx.ob (f' := (1433, [(0, .retAddr 0), (1, .ref 0), (2, .ref 69), (3, .ref 86), (4, .int (nI i))], [.int (xs (nI (i + 1)).toNatClampNeg), .ref 0])) (h' := zH v w t) rfl (zk_inN (show (i + 1) < Ls by omega) (by omega)) ?_
  rw [nI_clamp (show (i + 1) < 2 ^ 31 by omega)]
  skip
  · obtain ⟨a, v1, w1, v2, w2, h1, h2, hj⟩ := (zT_rest (Ls := Ls) (xs := xs) (t := t) h (xs (i + 1))).i rfl rfl (Or.inl rfl)
    refine zx.cl (v := some (.int a)) (h' := zH v1 w1 t) rfl h1 ?_
    show zx zk_mt zk_ex Ls xs zm_311 (1436, [(0, .retAddr 0), (1, .ref 0), (2, .ref 69), (3, .ref 86), (4, .int (nI i))], [.int a]) (zH v1 w1 t) _
    refine zx.adv 5 (f' := (1442, [(0, .retAddr 0), (1, .ref 0), (2, .ref 69), (3, .ref 86), (4, .int (nI i))], [.int ((nI i) + 1), .retAddr 0, .ref 69, .int a])) (h' := zH v1 w1 t) rfl ?_
    rw [show (nI i) + 1 = nI (i + 1) from nI_add i 1]
    refine zx.ob (f' := (1443, [(0, .retAddr 0), (1, .ref 0), (2, .ref 69), (3, .ref 86), (4, .int (nI i))], [.int (xs (nI (i + 1)).toNatClampNeg), .ref 69, .int a])) (h' := zH v1 w1 t) rfl (zk_inN (show (i + 1) < Ls by omega) (by omega)) ?_
    rw [nI_clamp (show (i + 1) < 2 ^ 31 by omega)]
    refine zx.cl (v := some (.int a)) (h' := zH v2 w2 t) rfl h2 ?_
    show zx zk_mt zk_ex Ls xs zm_311 (1446, [(0, .retAddr 0), (1, .ref 0), (2, .ref 69), (3, .ref 86), (4, .int (nI i))], [.int a, .int a]) (zH v2 w2 t) _
    refine zx.br (f1 := (1927, [(0, .retAddr 0), (1, .ref 0), (2, .ref 69), (3, .ref 86), (4, .int (nI i))], [])) (f2 := (1449, [(0, .retAddr 0), (1, .ref 0), (2, .ref 69), (3, .ref 86), (4, .int (nI i))], [])) rfl (fun c2 => ?_) (fun c2 => absurd rfl (of_decide_eq_false c2))
    refine zx.adv 1 (f' := (1930, [(0, .retAddr 0), (1, .ref 0), (2, .ref 69), (3, .ref 86), (4, .int ((nI i) + 6))], [])) (h' := zH v2 w2 t) rfl ?_
    rw [show (nI i) + 6 = nI (i + 6) from nI_add i 6]
    refine zx.adv 1 (f' := (23, [(0, .retAddr 0), (1, .ref 0), (2, .ref 69), (3, .ref 86), (4, .int (nI (i + 6)))], [])) (h' := zH v2 w2 t) rfl ?_
    exact hQ v2 w2 t (by omega) (by omega) hj
theorem zlc_41 {Q : Option Value × zk_H → Prop} {i : Nat} (hL : Ls ≤ 3072) (hi : i + 6 ≤ Ls) (h : zJ v w) (hc : xs i &&& 63 = nI 41) (hQ : ∀ v2 w2 t2, t2.length ≤ t.length + 1 → zk_sl t2 ≤ zk_sl t + 6 → zJ v2 w2 → zx zk_mt zk_ex Ls xs zm_311 (23, [(0, .retAddr 0), (1, .ref 0), (2, .ref 69), (3, .ref 86), (4, .int (nI (i + 6)))], []) (zH v2 w2 t2) Q) : zx zk_mt zk_ex Ls xs zm_311 (23, [(0, .retAddr 0), (1, .ref 0), (2, .ref 69), (3, .ref 86), (4, .int (nI i))], []) (zH v w t) Q := by
  refine zx.adv 5 (f' := (30, [(0, .retAddr 0), (1, .ref 0), (2, .ref 69), (3, .ref 86), (4, .int (nI i))], [.int ((Int32.ofNat Ls) - 6), .int (nI i)])) (h' := zH v w t) rfl ?_
  refine zx.br (f1 := (1933, [(0, .retAddr 0), (1, .ref 0), (2, .ref 69), (3, .ref 86), (4, .int (nI i))], [])) (f2 := (33, [(0, .retAddr 0), (1, .ref 0), (2, .ref 69), (3, .ref 86), (4, .int (nI i))], [])) rfl (fun c1 => absurd (of_decide_eq_true c1) (zl_cmp0 hL (by omega) hi)) (fun c1 => ?_)
  refine zx.adv 2 (f' := (36, [(0, .retAddr 0), (1, .ref 0), (2, .ref 69), (3, .ref 86), (4, .int (nI i))], [.int (nI i), .retAddr 0])) (h' := zH v w t) rfl ?_
  refine zx.ob (f' := (37, [(0, .retAddr 0), (1, .ref 0), (2, .ref 69), (3, .ref 86), (4, .int (nI i))], [.int (xs (nI i).toNatClampNeg)])) (h' := zH v w t) rfl (zk_inN (show i < Ls by omega) (by omega)) ?_
  rw [nI_clamp (show i < 2 ^ 31 by omega)]
  refine zx.adv 2 (f' := (40, [(0, .retAddr 0), (1, .ref 0), (2, .ref 69), (3, .ref 86), (4, .int (nI i))], [.int ((xs i) &&& 63)])) (h' := zH v w t) rfl ?_
  rw [show (xs i) &&& 63 = 41 from hc]
  refine zx.adv 6 (f' := (1457, [(0, .retAddr 0), (1, .ref 0), (2, .ref 69), (3, .ref 86), (4, .int (nI i))], [.int ((nI i) + 1), .retAddr 0, .ref 0])) (h' := zH v w t) rfl ?_
  rw [show (nI i) + 1 = nI (i + 1) from nI_add i 1]
  refine zx.ob (f' := (1458, [(0, .retAddr 0), (1, .ref 0), (2, .ref 69), (3, .ref 86), (4, .int (nI i))], [.int (xs (nI (i + 1)).toNatClampNeg), .ref 0])) (h' := zH v w t) rfl (zk_inN (show (i + 1) < Ls by omega) (by omega)) ?_
  rw [nI_clamp (show (i + 1) < 2 ^ 31 by omega)]
  refine zx.adv 4 (f' := (1463, [(0, .retAddr 0), (1, .ref 0), (2, .ref 69), (3, .ref 86), (4, .int (nI i))], [.int ((nI i) + 2), .retAddr 0, .int (xs (i + 1)), .ref 0])) (h' := zH v w t) rfl ?_
  rw [show (nI i) + 2 = nI (i + 2) from nI_add i 2]
  refine zx.ob (f' := (1464, [(0, .retAddr 0), (1, .ref 0), (2, .ref 69), (3, .ref 86), (4, .int (nI i))], [.int (xs (nI (i + 2)).toNatClampNeg), .int (xs (i + 1)), .ref 0])) (h' := zH v w t) rfl (zk_inN (show (i + 2) < Ls by omega) (by omega)) ?_
  rw [nI_clamp (show (i + 2) < 2 ^ 31 by omega)]
  refine zx.adv 4 (f' := (1469, [(0, .retAddr 0), (1, .ref 0), (2, .ref 69), (3, .ref 86), (4, .int (nI i))], [.int ((nI i) + 3), .retAddr 0, .int (xs (i + 2)), .int (xs (i + 1)), .ref 0])) (h' := zH v w t) rfl ?_
  rw [show (nI i) + 3 = nI (i + 3) from nI_add i 3]
  refine zx.ob (f' := (1470, [(0, .retAddr 0), (1, .ref 0), (2, .ref 69), (3, .ref 86), (4, .int (nI i))], [.int (xs (nI (i + 3)).toNatClampNeg), .int (xs (i + 2)), .int (xs (i + 1)), .ref 0])) (h' := zH v w t) rfl (zk_inN (show (i + 3) < Ls by omega) (by omega)) ?_
  rw [nI_clamp (show (i + 3) < 2 ^ 31 by omega)]
  refine zx.br (f1 := (1477, [(0, .retAddr 0), (1, .ref 0), (2, .ref 69), (3, .ref 86), (4, .int (nI i))], [.int (xs (i + 2)), .int (xs (i + 1)), .ref 0])) (f2 := (1473, [(0, .retAddr 0), (1, .ref 0), (2, .ref 69), (3, .ref 86), (4, .int (nI i))], [.int (xs (i + 2)), .int (xs (i + 1)), .ref 0])) rfl (fun c2 => ?_) (fun c2 => ?_)
  · have c2 : (xs (i + 3)) = 0 := of_decide_eq_true c2
    refine zx.adv 1 (f' := (1478, [(0, .retAddr 0), (1, .ref 0), (2, .ref 69), (3, .ref 86), (4, .int (nI i))], [.int 0, .int (xs (i + 2)), .int (xs (i + 1)), .ref 0])) (h' := zH v w t) rfl ?_
    skip
    · obtain ⟨a, v1, w1, v2, w2, h1, h2, hj⟩ := (zT_odds (Ls := Ls) (xs := xs) (t := t) h (xs (i + 1)) (xs (i + 2)) 0).l rfl rfl rfl
      refine zx.cl (v := some (.long a)) (h' := zH v1 w1 t) rfl h1 ?_
      show zx zk_mt zk_ex Ls xs zm_311 (1481, [(0, .retAddr 0), (1, .ref 0), (2, .ref 69), (3, .ref 86), (4, .int (nI i))], [.long a]) (zH v1 w1 t) _
      refine zx.adv 5 (f' := (1487, [(0, .retAddr 0), (1, .ref 0), (2, .ref 69), (3, .ref 86), (4, .int (nI i))], [.int ((nI i) + 1), .retAddr 0, .ref 69, .long a])) (h' := zH v1 w1 t) rfl ?_
      rw [show (nI i) + 1 = nI (i + 1) from nI_add i 1]
      refine zx.ob (f' := (1488, [(0, .retAddr 0), (1, .ref 0), (2, .ref 69), (3, .ref 86), (4, .int (nI i))], [.int (xs (nI (i + 1)).toNatClampNeg), .ref 69, .long a])) (h' := zH v1 w1 t) rfl (zk_inN (show (i + 1) < Ls by omega) (by omega)) ?_
      rw [nI_clamp (show (i + 1) < 2 ^ 31 by omega)]
      refine zx.adv 4 (f' := (1493, [(0, .retAddr 0), (1, .ref 0), (2, .ref 69), (3, .ref 86), (4, .int (nI i))], [.int ((nI i) + 2), .retAddr 0, .int (xs (i + 1)), .ref 69, .long a])) (h' := zH v1 w1 t) rfl ?_
      rw [show (nI i) + 2 = nI (i + 2) from nI_add i 2]
      refine zx.ob (f' := (1494, [(0, .retAddr 0), (1, .ref 0), (2, .ref 69), (3, .ref 86), (4, .int (nI i))], [.int (xs (nI (i + 2)).toNatClampNeg), .int (xs (i + 1)), .ref 69, .long a])) (h' := zH v1 w1 t) rfl (zk_inN (show (i + 2) < Ls by omega) (by omega)) ?_
      rw [nI_clamp (show (i + 2) < 2 ^ 31 by omega)]
      refine zx.adv 4 (f' := (1499, [(0, .retAddr 0), (1, .ref 0), (2, .ref 69), (3, .ref 86), (4, .int (nI i))], [.int ((nI i) + 3), .retAddr 0, .int (xs (i + 2)), .int (xs (i + 1)), .ref 69, .long a])) (h' := zH v1 w1 t) rfl ?_
      rw [show (nI i) + 3 = nI (i + 3) from nI_add i 3]
      refine zx.ob (f' := (1500, [(0, .retAddr 0), (1, .ref 0), (2, .ref 69), (3, .ref 86), (4, .int (nI i))], [.int (xs (nI (i + 3)).toNatClampNeg), .int (xs (i + 2)), .int (xs (i + 1)), .ref 69, .long a])) (h' := zH v1 w1 t) rfl (zk_inN (show (i + 3) < Ls by omega) (by omega)) ?_
      rw [nI_clamp (show (i + 3) < 2 ^ 31 by omega)]
      refine zx.br (f1 := (1507, [(0, .retAddr 0), (1, .ref 0), (2, .ref 69), (3, .ref 86), (4, .int (nI i))], [.int (xs (i + 2)), .int (xs (i + 1)), .ref 69, .long a])) (f2 := (1503, [(0, .retAddr 0), (1, .ref 0), (2, .ref 69), (3, .ref 86), (4, .int (nI i))], [.int (xs (i + 2)), .int (xs (i + 1)), .ref 69, .long a])) rfl (fun c3 => ?_) (fun c3 => absurd c2 (of_decide_eq_false c3))
      refine zx.adv 1 (f' := (1508, [(0, .retAddr 0), (1, .ref 0), (2, .ref 69), (3, .ref 86), (4, .int (nI i))], [.int 0, .int (xs (i + 2)), .int (xs (i + 1)), .ref 69, .long a])) (h' := zH v1 w1 t) rfl ?_
      refine zx.cl (v := some (.long a)) (h' := zH v2 w2 t) rfl h2 ?_
      show zx zk_mt zk_ex Ls xs zm_311 (1511, [(0, .retAddr 0), (1, .ref 0), (2, .ref 69), (3, .ref 86), (4, .int (nI i))], [.long a, .long a]) (zH v2 w2 t) _
      refine zx.adv 1 (f' := (1512, [(0, .retAddr 0), (1, .ref 0), (2, .ref 69), (3, .ref 86), (4, .int (nI i))], [.int (lg_cmp a a)])) (h' := zH v2 w2 t) rfl ?_
      refine zx.br (f1 := (1927, [(0, .retAddr 0), (1, .ref 0), (2, .ref 69), (3, .ref 86), (4, .int (nI i))], [])) (f2 := (1515, [(0, .retAddr 0), (1, .ref 0), (2, .ref 69), (3, .ref 86), (4, .int (nI i))], [])) rfl (fun c4 => ?_) (fun c4 => absurd (zp_cmp.mpr rfl) (of_decide_eq_false c4))
      refine zx.adv 1 (f' := (1930, [(0, .retAddr 0), (1, .ref 0), (2, .ref 69), (3, .ref 86), (4, .int ((nI i) + 6))], [])) (h' := zH v2 w2 t) rfl ?_
      rw [show (nI i) + 6 = nI (i + 6) from nI_add i 6]
      refine zx.adv 1 (f' := (23, [(0, .retAddr 0), (1, .ref 0), (2, .ref 69), (3, .ref 86), (4, .int (nI (i + 6)))], [])) (h' := zH v2 w2 t) rfl ?_
      exact hQ v2 w2 t (by omega) (by omega) hj
  · have c2 : ¬ ((xs (i + 3)) = 0) := of_decide_eq_false c2
    refine zx.adv 2 (f' := (1478, [(0, .retAddr 0), (1, .ref 0), (2, .ref 69), (3, .ref 86), (4, .int (nI i))], [.int 1, .int (xs (i + 2)), .int (xs (i + 1)), .ref 0])) (h' := zH v w t) rfl ?_
    skip
    · obtain ⟨a, v1, w1, v2, w2, h1, h2, hj⟩ := (zT_odds (Ls := Ls) (xs := xs) (t := t) h (xs (i + 1)) (xs (i + 2)) 1).l rfl rfl rfl
      refine zx.cl (v := some (.long a)) (h' := zH v1 w1 t) rfl h1 ?_
      show zx zk_mt zk_ex Ls xs zm_311 (1481, [(0, .retAddr 0), (1, .ref 0), (2, .ref 69), (3, .ref 86), (4, .int (nI i))], [.long a]) (zH v1 w1 t) _
      refine zx.adv 5 (f' := (1487, [(0, .retAddr 0), (1, .ref 0), (2, .ref 69), (3, .ref 86), (4, .int (nI i))], [.int ((nI i) + 1), .retAddr 0, .ref 69, .long a])) (h' := zH v1 w1 t) rfl ?_
      rw [show (nI i) + 1 = nI (i + 1) from nI_add i 1]
      refine zx.ob (f' := (1488, [(0, .retAddr 0), (1, .ref 0), (2, .ref 69), (3, .ref 86), (4, .int (nI i))], [.int (xs (nI (i + 1)).toNatClampNeg), .ref 69, .long a])) (h' := zH v1 w1 t) rfl (zk_inN (show (i + 1) < Ls by omega) (by omega)) ?_
      rw [nI_clamp (show (i + 1) < 2 ^ 31 by omega)]
      refine zx.adv 4 (f' := (1493, [(0, .retAddr 0), (1, .ref 0), (2, .ref 69), (3, .ref 86), (4, .int (nI i))], [.int ((nI i) + 2), .retAddr 0, .int (xs (i + 1)), .ref 69, .long a])) (h' := zH v1 w1 t) rfl ?_
      rw [show (nI i) + 2 = nI (i + 2) from nI_add i 2]
      refine zx.ob (f' := (1494, [(0, .retAddr 0), (1, .ref 0), (2, .ref 69), (3, .ref 86), (4, .int (nI i))], [.int (xs (nI (i + 2)).toNatClampNeg), .int (xs (i + 1)), .ref 69, .long a])) (h' := zH v1 w1 t) rfl (zk_inN (show (i + 2) < Ls by omega) (by omega)) ?_
      rw [nI_clamp (show (i + 2) < 2 ^ 31 by omega)]
      refine zx.adv 4 (f' := (1499, [(0, .retAddr 0), (1, .ref 0), (2, .ref 69), (3, .ref 86), (4, .int (nI i))], [.int ((nI i) + 3), .retAddr 0, .int (xs (i + 2)), .int (xs (i + 1)), .ref 69, .long a])) (h' := zH v1 w1 t) rfl ?_
      rw [show (nI i) + 3 = nI (i + 3) from nI_add i 3]
      refine zx.ob (f' := (1500, [(0, .retAddr 0), (1, .ref 0), (2, .ref 69), (3, .ref 86), (4, .int (nI i))], [.int (xs (nI (i + 3)).toNatClampNeg), .int (xs (i + 2)), .int (xs (i + 1)), .ref 69, .long a])) (h' := zH v1 w1 t) rfl (zk_inN (show (i + 3) < Ls by omega) (by omega)) ?_
      rw [nI_clamp (show (i + 3) < 2 ^ 31 by omega)]
      refine zx.br (f1 := (1507, [(0, .retAddr 0), (1, .ref 0), (2, .ref 69), (3, .ref 86), (4, .int (nI i))], [.int (xs (i + 2)), .int (xs (i + 1)), .ref 69, .long a])) (f2 := (1503, [(0, .retAddr 0), (1, .ref 0), (2, .ref 69), (3, .ref 86), (4, .int (nI i))], [.int (xs (i + 2)), .int (xs (i + 1)), .ref 69, .long a])) rfl (fun c5 => absurd (of_decide_eq_true c5) c2) (fun c5 => ?_)
      refine zx.adv 2 (f' := (1508, [(0, .retAddr 0), (1, .ref 0), (2, .ref 69), (3, .ref 86), (4, .int (nI i))], [.int 1, .int (xs (i + 2)), .int (xs (i + 1)), .ref 69, .long a])) (h' := zH v1 w1 t) rfl ?_
      refine zx.cl (v := some (.long a)) (h' := zH v2 w2 t) rfl h2 ?_
      show zx zk_mt zk_ex Ls xs zm_311 (1511, [(0, .retAddr 0), (1, .ref 0), (2, .ref 69), (3, .ref 86), (4, .int (nI i))], [.long a, .long a]) (zH v2 w2 t) _
      refine zx.adv 1 (f' := (1512, [(0, .retAddr 0), (1, .ref 0), (2, .ref 69), (3, .ref 86), (4, .int (nI i))], [.int (lg_cmp a a)])) (h' := zH v2 w2 t) rfl ?_
      refine zx.br (f1 := (1927, [(0, .retAddr 0), (1, .ref 0), (2, .ref 69), (3, .ref 86), (4, .int (nI i))], [])) (f2 := (1515, [(0, .retAddr 0), (1, .ref 0), (2, .ref 69), (3, .ref 86), (4, .int (nI i))], [])) rfl (fun c6 => ?_) (fun c6 => absurd (zp_cmp.mpr rfl) (of_decide_eq_false c6))
      refine zx.adv 1 (f' := (1930, [(0, .retAddr 0), (1, .ref 0), (2, .ref 69), (3, .ref 86), (4, .int ((nI i) + 6))], [])) (h' := zH v2 w2 t) rfl ?_
      rw [show (nI i) + 6 = nI (i + 6) from nI_add i 6]
      refine zx.adv 1 (f' := (23, [(0, .retAddr 0), (1, .ref 0), (2, .ref 69), (3, .ref 86), (4, .int (nI (i + 6)))], [])) (h' := zH v2 w2 t) rfl ?_
      exact hQ v2 w2 t (by omega) (by omega) hj
theorem zlc_42 {Q : Option Value × zk_H → Prop} {i : Nat} (hL : Ls ≤ 3072) (hi : i + 6 ≤ Ls) (h : zJ v w) (hc : xs i &&& 63 = nI 42) (hQ : ∀ v2 w2 t2, t2.length ≤ t.length + 1 → zk_sl t2 ≤ zk_sl t + 6 → zJ v2 w2 → zx zk_mt zk_ex Ls xs zm_311 (23, [(0, .retAddr 0), (1, .ref 0), (2, .ref 69), (3, .ref 86), (4, .int (nI (i + 6)))], []) (zH v2 w2 t2) Q) : zx zk_mt zk_ex Ls xs zm_311 (23, [(0, .retAddr 0), (1, .ref 0), (2, .ref 69), (3, .ref 86), (4, .int (nI i))], []) (zH v w t) Q := by
  refine zx.adv 5 (f' := (30, [(0, .retAddr 0), (1, .ref 0), (2, .ref 69), (3, .ref 86), (4, .int (nI i))], [.int ((Int32.ofNat Ls) - 6), .int (nI i)])) (h' := zH v w t) rfl ?_
  refine zx.br (f1 := (1933, [(0, .retAddr 0), (1, .ref 0), (2, .ref 69), (3, .ref 86), (4, .int (nI i))], [])) (f2 := (33, [(0, .retAddr 0), (1, .ref 0), (2, .ref 69), (3, .ref 86), (4, .int (nI i))], [])) rfl (fun c1 => absurd (of_decide_eq_true c1) (zl_cmp0 hL (by omega) hi)) (fun c1 => ?_)
  refine zx.adv 2 (f' := (36, [(0, .retAddr 0), (1, .ref 0), (2, .ref 69), (3, .ref 86), (4, .int (nI i))], [.int (nI i), .retAddr 0])) (h' := zH v w t) rfl ?_
  refine zx.ob (f' := (37, [(0, .retAddr 0), (1, .ref 0), (2, .ref 69), (3, .ref 86), (4, .int (nI i))], [.int (xs (nI i).toNatClampNeg)])) (h' := zH v w t) rfl (zk_inN (show i < Ls by omega) (by omega)) ?_
  rw [nI_clamp (show i < 2 ^ 31 by omega)]
  refine zx.adv 2 (f' := (40, [(0, .retAddr 0), (1, .ref 0), (2, .ref 69), (3, .ref 86), (4, .int (nI i))], [.int ((xs i) &&& 63)])) (h' := zH v w t) rfl ?_
  rw [show (xs i) &&& 63 = 42 from hc]
  refine zx.adv 6 (f' := (1523, [(0, .retAddr 0), (1, .ref 0), (2, .ref 69), (3, .ref 86), (4, .int (nI i))], [.int ((nI i) + 1), .retAddr 0, .ref 0])) (h' := zH v w t) rfl ?_
  rw [show (nI i) + 1 = nI (i + 1) from nI_add i 1]
  refine zx.ob (f' := (1524, [(0, .retAddr 0), (1, .ref 0), (2, .ref 69), (3, .ref 86), (4, .int (nI i))], [.int (xs (nI (i + 1)).toNatClampNeg), .ref 0])) (h' := zH v w t) rfl (zk_inN (show (i + 1) < Ls by omega) (by omega)) ?_
  rw [nI_clamp (show (i + 1) < 2 ^ 31 by omega)]
  refine zx.adv 4 (f' := (1529, [(0, .retAddr 0), (1, .ref 0), (2, .ref 69), (3, .ref 86), (4, .int (nI i))], [.int ((nI i) + 2), .retAddr 0, .int (xs (i + 1)), .ref 0])) (h' := zH v w t) rfl ?_
  rw [show (nI i) + 2 = nI (i + 2) from nI_add i 2]
  refine zx.ob (f' := (1530, [(0, .retAddr 0), (1, .ref 0), (2, .ref 69), (3, .ref 86), (4, .int (nI i))], [.int (xs (nI (i + 2)).toNatClampNeg), .int (xs (i + 1)), .ref 0])) (h' := zH v w t) rfl (zk_inN (show (i + 2) < Ls by omega) (by omega)) ?_
  rw [nI_clamp (show (i + 2) < 2 ^ 31 by omega)]
  refine zx.adv 4 (f' := (1535, [(0, .retAddr 0), (1, .ref 0), (2, .ref 69), (3, .ref 86), (4, .int (nI i))], [.int ((nI i) + 3), .retAddr 0, .int (xs (i + 2)), .int (xs (i + 1)), .ref 0])) (h' := zH v w t) rfl ?_
  rw [show (nI i) + 3 = nI (i + 3) from nI_add i 3]
  refine zx.ob (f' := (1536, [(0, .retAddr 0), (1, .ref 0), (2, .ref 69), (3, .ref 86), (4, .int (nI i))], [.int (xs (nI (i + 3)).toNatClampNeg), .int (xs (i + 2)), .int (xs (i + 1)), .ref 0])) (h' := zH v w t) rfl (zk_inN (show (i + 3) < Ls by omega) (by omega)) ?_
  rw [nI_clamp (show (i + 3) < 2 ^ 31 by omega)]
  refine zx.br (f1 := (1543, [(0, .retAddr 0), (1, .ref 0), (2, .ref 69), (3, .ref 86), (4, .int (nI i))], [.int (xs (i + 2)), .int (xs (i + 1)), .ref 0])) (f2 := (1539, [(0, .retAddr 0), (1, .ref 0), (2, .ref 69), (3, .ref 86), (4, .int (nI i))], [.int (xs (i + 2)), .int (xs (i + 1)), .ref 0])) rfl (fun c2 => ?_) (fun c2 => ?_)
  · have c2 : (xs (i + 3)) = 0 := of_decide_eq_true c2
    refine zx.adv 1 (f' := (1544, [(0, .retAddr 0), (1, .ref 0), (2, .ref 69), (3, .ref 86), (4, .int (nI i))], [.int 0, .int (xs (i + 2)), .int (xs (i + 1)), .ref 0])) (h' := zH v w t) rfl ?_
    skip
    · obtain ⟨a, v1, w1, v2, w2, h1, h2, hj⟩ := (zT_mean (Ls := Ls) (xs := xs) (t := t) h (xs (i + 1)) (xs (i + 2)) 0).l rfl rfl rfl
      refine zx.cl (v := some (.long a)) (h' := zH v1 w1 t) rfl h1 ?_
      show zx zk_mt zk_ex Ls xs zm_311 (1547, [(0, .retAddr 0), (1, .ref 0), (2, .ref 69), (3, .ref 86), (4, .int (nI i))], [.long a]) (zH v1 w1 t) _
      refine zx.adv 5 (f' := (1553, [(0, .retAddr 0), (1, .ref 0), (2, .ref 69), (3, .ref 86), (4, .int (nI i))], [.int ((nI i) + 1), .retAddr 0, .ref 69, .long a])) (h' := zH v1 w1 t) rfl ?_
      rw [show (nI i) + 1 = nI (i + 1) from nI_add i 1]
      refine zx.ob (f' := (1554, [(0, .retAddr 0), (1, .ref 0), (2, .ref 69), (3, .ref 86), (4, .int (nI i))], [.int (xs (nI (i + 1)).toNatClampNeg), .ref 69, .long a])) (h' := zH v1 w1 t) rfl (zk_inN (show (i + 1) < Ls by omega) (by omega)) ?_
      rw [nI_clamp (show (i + 1) < 2 ^ 31 by omega)]
      refine zx.adv 4 (f' := (1559, [(0, .retAddr 0), (1, .ref 0), (2, .ref 69), (3, .ref 86), (4, .int (nI i))], [.int ((nI i) + 2), .retAddr 0, .int (xs (i + 1)), .ref 69, .long a])) (h' := zH v1 w1 t) rfl ?_
      rw [show (nI i) + 2 = nI (i + 2) from nI_add i 2]
      refine zx.ob (f' := (1560, [(0, .retAddr 0), (1, .ref 0), (2, .ref 69), (3, .ref 86), (4, .int (nI i))], [.int (xs (nI (i + 2)).toNatClampNeg), .int (xs (i + 1)), .ref 69, .long a])) (h' := zH v1 w1 t) rfl (zk_inN (show (i + 2) < Ls by omega) (by omega)) ?_
      rw [nI_clamp (show (i + 2) < 2 ^ 31 by omega)]
      refine zx.adv 4 (f' := (1565, [(0, .retAddr 0), (1, .ref 0), (2, .ref 69), (3, .ref 86), (4, .int (nI i))], [.int ((nI i) + 3), .retAddr 0, .int (xs (i + 2)), .int (xs (i + 1)), .ref 69, .long a])) (h' := zH v1 w1 t) rfl ?_
      rw [show (nI i) + 3 = nI (i + 3) from nI_add i 3]
      refine zx.ob (f' := (1566, [(0, .retAddr 0), (1, .ref 0), (2, .ref 69), (3, .ref 86), (4, .int (nI i))], [.int (xs (nI (i + 3)).toNatClampNeg), .int (xs (i + 2)), .int (xs (i + 1)), .ref 69, .long a])) (h' := zH v1 w1 t) rfl (zk_inN (show (i + 3) < Ls by omega) (by omega)) ?_
      rw [nI_clamp (show (i + 3) < 2 ^ 31 by omega)]
      refine zx.br (f1 := (1573, [(0, .retAddr 0), (1, .ref 0), (2, .ref 69), (3, .ref 86), (4, .int (nI i))], [.int (xs (i + 2)), .int (xs (i + 1)), .ref 69, .long a])) (f2 := (1569, [(0, .retAddr 0), (1, .ref 0), (2, .ref 69), (3, .ref 86), (4, .int (nI i))], [.int (xs (i + 2)), .int (xs (i + 1)), .ref 69, .long a])) rfl (fun c3 => ?_) (fun c3 => absurd c2 (of_decide_eq_false c3))
      refine zx.adv 1 (f' := (1574, [(0, .retAddr 0), (1, .ref 0), (2, .ref 69), (3, .ref 86), (4, .int (nI i))], [.int 0, .int (xs (i + 2)), .int (xs (i + 1)), .ref 69, .long a])) (h' := zH v1 w1 t) rfl ?_
      refine zx.cl (v := some (.long a)) (h' := zH v2 w2 t) rfl h2 ?_
      show zx zk_mt zk_ex Ls xs zm_311 (1577, [(0, .retAddr 0), (1, .ref 0), (2, .ref 69), (3, .ref 86), (4, .int (nI i))], [.long a, .long a]) (zH v2 w2 t) _
      refine zx.adv 1 (f' := (1578, [(0, .retAddr 0), (1, .ref 0), (2, .ref 69), (3, .ref 86), (4, .int (nI i))], [.int (lg_cmp a a)])) (h' := zH v2 w2 t) rfl ?_
      refine zx.br (f1 := (1927, [(0, .retAddr 0), (1, .ref 0), (2, .ref 69), (3, .ref 86), (4, .int (nI i))], [])) (f2 := (1581, [(0, .retAddr 0), (1, .ref 0), (2, .ref 69), (3, .ref 86), (4, .int (nI i))], [])) rfl (fun c4 => ?_) (fun c4 => absurd (zp_cmp.mpr rfl) (of_decide_eq_false c4))
      refine zx.adv 1 (f' := (1930, [(0, .retAddr 0), (1, .ref 0), (2, .ref 69), (3, .ref 86), (4, .int ((nI i) + 6))], [])) (h' := zH v2 w2 t) rfl ?_
      rw [show (nI i) + 6 = nI (i + 6) from nI_add i 6]
      refine zx.adv 1 (f' := (23, [(0, .retAddr 0), (1, .ref 0), (2, .ref 69), (3, .ref 86), (4, .int (nI (i + 6)))], [])) (h' := zH v2 w2 t) rfl ?_
      exact hQ v2 w2 t (by omega) (by omega) hj
  · have c2 : ¬ ((xs (i + 3)) = 0) := of_decide_eq_false c2
    refine zx.adv 2 (f' := (1544, [(0, .retAddr 0), (1, .ref 0), (2, .ref 69), (3, .ref 86), (4, .int (nI i))], [.int 1, .int (xs (i + 2)), .int (xs (i + 1)), .ref 0])) (h' := zH v w t) rfl ?_
    skip
    · obtain ⟨a, v1, w1, v2, w2, h1, h2, hj⟩ := (zT_mean (Ls := Ls) (xs := xs) (t := t) h (xs (i + 1)) (xs (i + 2)) 1).l rfl rfl rfl
      refine zx.cl (v := some (.long a)) (h' := zH v1 w1 t) rfl h1 ?_
      show zx zk_mt zk_ex Ls xs zm_311 (1547, [(0, .retAddr 0), (1, .ref 0), (2, .ref 69), (3, .ref 86), (4, .int (nI i))], [.long a]) (zH v1 w1 t) _
      refine zx.adv 5 (f' := (1553, [(0, .retAddr 0), (1, .ref 0), (2, .ref 69), (3, .ref 86), (4, .int (nI i))], [.int ((nI i) + 1), .retAddr 0, .ref 69, .long a])) (h' := zH v1 w1 t) rfl ?_
      rw [show (nI i) + 1 = nI (i + 1) from nI_add i 1]
      refine zx.ob (f' := (1554, [(0, .retAddr 0), (1, .ref 0), (2, .ref 69), (3, .ref 86), (4, .int (nI i))], [.int (xs (nI (i + 1)).toNatClampNeg), .ref 69, .long a])) (h' := zH v1 w1 t) rfl (zk_inN (show (i + 1) < Ls by omega) (by omega)) ?_
      rw [nI_clamp (show (i + 1) < 2 ^ 31 by omega)]
      refine zx.adv 4 (f' := (1559, [(0, .retAddr 0), (1, .ref 0), (2, .ref 69), (3, .ref 86), (4, .int (nI i))], [.int ((nI i) + 2), .retAddr 0, .int (xs (i + 1)), .ref 69, .long a])) (h' := zH v1 w1 t) rfl ?_
      rw [show (nI i) + 2 = nI (i + 2) from nI_add i 2]
      refine zx.ob (f' := (1560, [(0, .retAddr 0), (1, .ref 0), (2, .ref 69), (3, .ref 86), (4, .int (nI i))], [.int (xs (nI (i + 2)).toNatClampNeg), .int (xs (i + 1)), .ref 69, .long a])) (h' := zH v1 w1 t) rfl (zk_inN (show (i + 2) < Ls by omega) (by omega)) ?_
      rw [nI_clamp (show (i + 2) < 2 ^ 31 by omega)]
      refine zx.adv 4 (f' := (1565, [(0, .retAddr 0), (1, .ref 0), (2, .ref 69), (3, .ref 86), (4, .int (nI i))], [.int ((nI i) + 3), .retAddr 0, .int (xs (i + 2)), .int (xs (i + 1)), .ref 69, .long a])) (h' := zH v1 w1 t) rfl ?_
      rw [show (nI i) + 3 = nI (i + 3) from nI_add i 3]
      refine zx.ob (f' := (1566, [(0, .retAddr 0), (1, .ref 0), (2, .ref 69), (3, .ref 86), (4, .int (nI i))], [.int (xs (nI (i + 3)).toNatClampNeg), .int (xs (i + 2)), .int (xs (i + 1)), .ref 69, .long a])) (h' := zH v1 w1 t) rfl (zk_inN (show (i + 3) < Ls by omega) (by omega)) ?_
      rw [nI_clamp (show (i + 3) < 2 ^ 31 by omega)]
      refine zx.br (f1 := (1573, [(0, .retAddr 0), (1, .ref 0), (2, .ref 69), (3, .ref 86), (4, .int (nI i))], [.int (xs (i + 2)), .int (xs (i + 1)), .ref 69, .long a])) (f2 := (1569, [(0, .retAddr 0), (1, .ref 0), (2, .ref 69), (3, .ref 86), (4, .int (nI i))], [.int (xs (i + 2)), .int (xs (i + 1)), .ref 69, .long a])) rfl (fun c5 => absurd (of_decide_eq_true c5) c2) (fun c5 => ?_)
      refine zx.adv 2 (f' := (1574, [(0, .retAddr 0), (1, .ref 0), (2, .ref 69), (3, .ref 86), (4, .int (nI i))], [.int 1, .int (xs (i + 2)), .int (xs (i + 1)), .ref 69, .long a])) (h' := zH v1 w1 t) rfl ?_
      refine zx.cl (v := some (.long a)) (h' := zH v2 w2 t) rfl h2 ?_
      show zx zk_mt zk_ex Ls xs zm_311 (1577, [(0, .retAddr 0), (1, .ref 0), (2, .ref 69), (3, .ref 86), (4, .int (nI i))], [.long a, .long a]) (zH v2 w2 t) _
      refine zx.adv 1 (f' := (1578, [(0, .retAddr 0), (1, .ref 0), (2, .ref 69), (3, .ref 86), (4, .int (nI i))], [.int (lg_cmp a a)])) (h' := zH v2 w2 t) rfl ?_
      refine zx.br (f1 := (1927, [(0, .retAddr 0), (1, .ref 0), (2, .ref 69), (3, .ref 86), (4, .int (nI i))], [])) (f2 := (1581, [(0, .retAddr 0), (1, .ref 0), (2, .ref 69), (3, .ref 86), (4, .int (nI i))], [])) rfl (fun c6 => ?_) (fun c6 => absurd (zp_cmp.mpr rfl) (of_decide_eq_false c6))
      refine zx.adv 1 (f' := (1930, [(0, .retAddr 0), (1, .ref 0), (2, .ref 69), (3, .ref 86), (4, .int ((nI i) + 6))], [])) (h' := zH v2 w2 t) rfl ?_
      rw [show (nI i) + 6 = nI (i + 6) from nI_add i 6]
      refine zx.adv 1 (f' := (23, [(0, .retAddr 0), (1, .ref 0), (2, .ref 69), (3, .ref 86), (4, .int (nI (i + 6)))], [])) (h' := zH v2 w2 t) rfl ?_
      exact hQ v2 w2 t (by omega) (by omega) hj
theorem zlc_43 {Q : Option Value × zk_H → Prop} {i : Nat} (hL : Ls ≤ 3072) (hi : i + 6 ≤ Ls) (h : zJ v w) (hc : xs i &&& 63 = nI 43) (hQ : ∀ v2 w2 t2, t2.length ≤ t.length + 1 → zk_sl t2 ≤ zk_sl t + 6 → zJ v2 w2 → zx zk_mt zk_ex Ls xs zm_311 (23, [(0, .retAddr 0), (1, .ref 0), (2, .ref 69), (3, .ref 86), (4, .int (nI (i + 6)))], []) (zH v2 w2 t2) Q) : zx zk_mt zk_ex Ls xs zm_311 (23, [(0, .retAddr 0), (1, .ref 0), (2, .ref 69), (3, .ref 86), (4, .int (nI i))], []) (zH v w t) Q := by
  refine zx.adv 5 (f' := (30, [(0, .retAddr 0), (1, .ref 0), (2, .ref 69), (3, .ref 86), (4, .int (nI i))], [.int ((Int32.ofNat Ls) - 6), .int (nI i)])) (h' := zH v w t) rfl ?_
  refine zx.br (f1 := (1933, [(0, .retAddr 0), (1, .ref 0), (2, .ref 69), (3, .ref 86), (4, .int (nI i))], [])) (f2 := (33, [(0, .retAddr 0), (1, .ref 0), (2, .ref 69), (3, .ref 86), (4, .int (nI i))], [])) rfl (fun c1 => absurd (of_decide_eq_true c1) (zl_cmp0 hL (by omega) hi)) (fun c1 => ?_)
  refine zx.adv 2 (f' := (36, [(0, .retAddr 0), (1, .ref 0), (2, .ref 69), (3, .ref 86), (4, .int (nI i))], [.int (nI i), .retAddr 0])) (h' := zH v w t) rfl ?_
  refine zx.ob (f' := (37, [(0, .retAddr 0), (1, .ref 0), (2, .ref 69), (3, .ref 86), (4, .int (nI i))], [.int (xs (nI i).toNatClampNeg)])) (h' := zH v w t) rfl (zk_inN (show i < Ls by omega) (by omega)) ?_
  rw [nI_clamp (show i < 2 ^ 31 by omega)]
  refine zx.adv 2 (f' := (40, [(0, .retAddr 0), (1, .ref 0), (2, .ref 69), (3, .ref 86), (4, .int (nI i))], [.int ((xs i) &&& 63)])) (h' := zH v w t) rfl ?_
  rw [show (xs i) &&& 63 = 43 from hc]
  refine zx.adv 6 (f' := (1589, [(0, .retAddr 0), (1, .ref 0), (2, .ref 69), (3, .ref 86), (4, .int (nI i))], [.int ((nI i) + 1), .retAddr 0, .ref 0])) (h' := zH v w t) rfl ?_
  rw [show (nI i) + 1 = nI (i + 1) from nI_add i 1]
  refine zx.ob (f' := (1590, [(0, .retAddr 0), (1, .ref 0), (2, .ref 69), (3, .ref 86), (4, .int (nI i))], [.int (xs (nI (i + 1)).toNatClampNeg), .ref 0])) (h' := zH v w t) rfl (zk_inN (show (i + 1) < Ls by omega) (by omega)) ?_
  rw [nI_clamp (show (i + 1) < 2 ^ 31 by omega)]
  refine zx.adv 4 (f' := (1595, [(0, .retAddr 0), (1, .ref 0), (2, .ref 69), (3, .ref 86), (4, .int (nI i))], [.int ((nI i) + 2), .retAddr 0, .int (xs (i + 1)), .ref 0])) (h' := zH v w t) rfl ?_
  rw [show (nI i) + 2 = nI (i + 2) from nI_add i 2]
  refine zx.ob (f' := (1596, [(0, .retAddr 0), (1, .ref 0), (2, .ref 69), (3, .ref 86), (4, .int (nI i))], [.int (xs (nI (i + 2)).toNatClampNeg), .int (xs (i + 1)), .ref 0])) (h' := zH v w t) rfl (zk_inN (show (i + 2) < Ls by omega) (by omega)) ?_
  rw [nI_clamp (show (i + 2) < 2 ^ 31 by omega)]
  skip
  · obtain ⟨a, v1, w1, v2, w2, h1, h2, hj⟩ := (zT_drawn (Ls := Ls) (xs := xs) (t := t) h (xs (i + 1)) (xs (i + 2))).i rfl rfl (Or.inl rfl)
    refine zx.cl (v := some (.int a)) (h' := zH v1 w1 t) rfl h1 ?_
    show zx zk_mt zk_ex Ls xs zm_311 (1599, [(0, .retAddr 0), (1, .ref 0), (2, .ref 69), (3, .ref 86), (4, .int (nI i))], [.int a]) (zH v1 w1 t) _
    refine zx.adv 5 (f' := (1605, [(0, .retAddr 0), (1, .ref 0), (2, .ref 69), (3, .ref 86), (4, .int (nI i))], [.int ((nI i) + 1), .retAddr 0, .ref 69, .int a])) (h' := zH v1 w1 t) rfl ?_
    rw [show (nI i) + 1 = nI (i + 1) from nI_add i 1]
    refine zx.ob (f' := (1606, [(0, .retAddr 0), (1, .ref 0), (2, .ref 69), (3, .ref 86), (4, .int (nI i))], [.int (xs (nI (i + 1)).toNatClampNeg), .ref 69, .int a])) (h' := zH v1 w1 t) rfl (zk_inN (show (i + 1) < Ls by omega) (by omega)) ?_
    rw [nI_clamp (show (i + 1) < 2 ^ 31 by omega)]
    refine zx.adv 4 (f' := (1611, [(0, .retAddr 0), (1, .ref 0), (2, .ref 69), (3, .ref 86), (4, .int (nI i))], [.int ((nI i) + 2), .retAddr 0, .int (xs (i + 1)), .ref 69, .int a])) (h' := zH v1 w1 t) rfl ?_
    rw [show (nI i) + 2 = nI (i + 2) from nI_add i 2]
    refine zx.ob (f' := (1612, [(0, .retAddr 0), (1, .ref 0), (2, .ref 69), (3, .ref 86), (4, .int (nI i))], [.int (xs (nI (i + 2)).toNatClampNeg), .int (xs (i + 1)), .ref 69, .int a])) (h' := zH v1 w1 t) rfl (zk_inN (show (i + 2) < Ls by omega) (by omega)) ?_
    rw [nI_clamp (show (i + 2) < 2 ^ 31 by omega)]
    refine zx.cl (v := some (.int a)) (h' := zH v2 w2 t) rfl h2 ?_
    show zx zk_mt zk_ex Ls xs zm_311 (1615, [(0, .retAddr 0), (1, .ref 0), (2, .ref 69), (3, .ref 86), (4, .int (nI i))], [.int a, .int a]) (zH v2 w2 t) _
    refine zx.br (f1 := (1927, [(0, .retAddr 0), (1, .ref 0), (2, .ref 69), (3, .ref 86), (4, .int (nI i))], [])) (f2 := (1618, [(0, .retAddr 0), (1, .ref 0), (2, .ref 69), (3, .ref 86), (4, .int (nI i))], [])) rfl (fun c2 => ?_) (fun c2 => absurd rfl (of_decide_eq_false c2))
    refine zx.adv 1 (f' := (1930, [(0, .retAddr 0), (1, .ref 0), (2, .ref 69), (3, .ref 86), (4, .int ((nI i) + 6))], [])) (h' := zH v2 w2 t) rfl ?_
    rw [show (nI i) + 6 = nI (i + 6) from nI_add i 6]
    refine zx.adv 1 (f' := (23, [(0, .retAddr 0), (1, .ref 0), (2, .ref 69), (3, .ref 86), (4, .int (nI (i + 6)))], [])) (h' := zH v2 w2 t) rfl ?_
    exact hQ v2 w2 t (by omega) (by omega) hj
theorem zlc_44 {Q : Option Value × zk_H → Prop} {i : Nat} (hL : Ls ≤ 3072) (hi : i + 6 ≤ Ls) (h : zJ v w) (hc : xs i &&& 63 = nI 44) (hQ : ∀ v2 w2 t2, t2.length ≤ t.length + 1 → zk_sl t2 ≤ zk_sl t + 6 → zJ v2 w2 → zx zk_mt zk_ex Ls xs zm_311 (23, [(0, .retAddr 0), (1, .ref 0), (2, .ref 69), (3, .ref 86), (4, .int (nI (i + 6)))], []) (zH v2 w2 t2) Q) : zx zk_mt zk_ex Ls xs zm_311 (23, [(0, .retAddr 0), (1, .ref 0), (2, .ref 69), (3, .ref 86), (4, .int (nI i))], []) (zH v w t) Q := by
  refine zx.adv 5 (f' := (30, [(0, .retAddr 0), (1, .ref 0), (2, .ref 69), (3, .ref 86), (4, .int (nI i))], [.int ((Int32.ofNat Ls) - 6), .int (nI i)])) (h' := zH v w t) rfl ?_
  refine zx.br (f1 := (1933, [(0, .retAddr 0), (1, .ref 0), (2, .ref 69), (3, .ref 86), (4, .int (nI i))], [])) (f2 := (33, [(0, .retAddr 0), (1, .ref 0), (2, .ref 69), (3, .ref 86), (4, .int (nI i))], [])) rfl (fun c1 => absurd (of_decide_eq_true c1) (zl_cmp0 hL (by omega) hi)) (fun c1 => ?_)
  refine zx.adv 2 (f' := (36, [(0, .retAddr 0), (1, .ref 0), (2, .ref 69), (3, .ref 86), (4, .int (nI i))], [.int (nI i), .retAddr 0])) (h' := zH v w t) rfl ?_
  refine zx.ob (f' := (37, [(0, .retAddr 0), (1, .ref 0), (2, .ref 69), (3, .ref 86), (4, .int (nI i))], [.int (xs (nI i).toNatClampNeg)])) (h' := zH v w t) rfl (zk_inN (show i < Ls by omega) (by omega)) ?_
  rw [nI_clamp (show i < 2 ^ 31 by omega)]
  refine zx.adv 2 (f' := (40, [(0, .retAddr 0), (1, .ref 0), (2, .ref 69), (3, .ref 86), (4, .int (nI i))], [.int ((xs i) &&& 63)])) (h' := zH v w t) rfl ?_
  rw [show (xs i) &&& 63 = 44 from hc]
  refine zx.adv 6 (f' := (1626, [(0, .retAddr 0), (1, .ref 0), (2, .ref 69), (3, .ref 86), (4, .int (nI i))], [.int ((nI i) + 1), .retAddr 0, .ref 0])) (h' := zH v w t) rfl ?_
  rw [show (nI i) + 1 = nI (i + 1) from nI_add i 1]
  refine zx.ob (f' := (1627, [(0, .retAddr 0), (1, .ref 0), (2, .ref 69), (3, .ref 86), (4, .int (nI i))], [.int (xs (nI (i + 1)).toNatClampNeg), .ref 0])) (h' := zH v w t) rfl (zk_inN (show (i + 1) < Ls by omega) (by omega)) ?_
  rw [nI_clamp (show (i + 1) < 2 ^ 31 by omega)]
  skip
  · obtain ⟨a, v1, w1, v2, w2, h1, h2, hj⟩ := (zT_slips (Ls := Ls) (xs := xs) (t := t) h (xs (i + 1))).i rfl rfl (Or.inl rfl)
    refine zx.cl (v := some (.int a)) (h' := zH v1 w1 t) rfl h1 ?_
    show zx zk_mt zk_ex Ls xs zm_311 (1630, [(0, .retAddr 0), (1, .ref 0), (2, .ref 69), (3, .ref 86), (4, .int (nI i))], [.int a]) (zH v1 w1 t) _
    refine zx.adv 5 (f' := (1636, [(0, .retAddr 0), (1, .ref 0), (2, .ref 69), (3, .ref 86), (4, .int (nI i))], [.int ((nI i) + 1), .retAddr 0, .ref 69, .int a])) (h' := zH v1 w1 t) rfl ?_
    rw [show (nI i) + 1 = nI (i + 1) from nI_add i 1]
    refine zx.ob (f' := (1637, [(0, .retAddr 0), (1, .ref 0), (2, .ref 69), (3, .ref 86), (4, .int (nI i))], [.int (xs (nI (i + 1)).toNatClampNeg), .ref 69, .int a])) (h' := zH v1 w1 t) rfl (zk_inN (show (i + 1) < Ls by omega) (by omega)) ?_
    rw [nI_clamp (show (i + 1) < 2 ^ 31 by omega)]
    refine zx.cl (v := some (.int a)) (h' := zH v2 w2 t) rfl h2 ?_
    show zx zk_mt zk_ex Ls xs zm_311 (1640, [(0, .retAddr 0), (1, .ref 0), (2, .ref 69), (3, .ref 86), (4, .int (nI i))], [.int a, .int a]) (zH v2 w2 t) _
    refine zx.br (f1 := (1927, [(0, .retAddr 0), (1, .ref 0), (2, .ref 69), (3, .ref 86), (4, .int (nI i))], [])) (f2 := (1643, [(0, .retAddr 0), (1, .ref 0), (2, .ref 69), (3, .ref 86), (4, .int (nI i))], [])) rfl (fun c2 => ?_) (fun c2 => absurd rfl (of_decide_eq_false c2))
    refine zx.adv 1 (f' := (1930, [(0, .retAddr 0), (1, .ref 0), (2, .ref 69), (3, .ref 86), (4, .int ((nI i) + 6))], [])) (h' := zH v2 w2 t) rfl ?_
    rw [show (nI i) + 6 = nI (i + 6) from nI_add i 6]
    refine zx.adv 1 (f' := (23, [(0, .retAddr 0), (1, .ref 0), (2, .ref 69), (3, .ref 86), (4, .int (nI (i + 6)))], [])) (h' := zH v2 w2 t) rfl ?_
    exact hQ v2 w2 t (by omega) (by omega) hj
theorem zlc_45 {Q : Option Value × zk_H → Prop} {i : Nat} (hL : Ls ≤ 3072) (hi : i + 6 ≤ Ls) (h : zJ v w) (hc : xs i &&& 63 = nI 45) (hQ : ∀ v2 w2 t2, t2.length ≤ t.length + 1 → zk_sl t2 ≤ zk_sl t + 6 → zJ v2 w2 → zx zk_mt zk_ex Ls xs zm_311 (23, [(0, .retAddr 0), (1, .ref 0), (2, .ref 69), (3, .ref 86), (4, .int (nI (i + 6)))], []) (zH v2 w2 t2) Q) : zx zk_mt zk_ex Ls xs zm_311 (23, [(0, .retAddr 0), (1, .ref 0), (2, .ref 69), (3, .ref 86), (4, .int (nI i))], []) (zH v w t) Q := by
  refine zx.adv 5 (f' := (30, [(0, .retAddr 0), (1, .ref 0), (2, .ref 69), (3, .ref 86), (4, .int (nI i))], [.int ((Int32.ofNat Ls) - 6), .int (nI i)])) (h' := zH v w t) rfl ?_
  refine zx.br (f1 := (1933, [(0, .retAddr 0), (1, .ref 0), (2, .ref 69), (3, .ref 86), (4, .int (nI i))], [])) (f2 := (33, [(0, .retAddr 0), (1, .ref 0), (2, .ref 69), (3, .ref 86), (4, .int (nI i))], [])) rfl (fun c1 => absurd (of_decide_eq_true c1) (zl_cmp0 hL (by omega) hi)) (fun c1 => ?_)
  refine zx.adv 2 (f' := (36, [(0, .retAddr 0), (1, .ref 0), (2, .ref 69), (3, .ref 86), (4, .int (nI i))], [.int (nI i), .retAddr 0])) (h' := zH v w t) rfl ?_
  refine zx.ob (f' := (37, [(0, .retAddr 0), (1, .ref 0), (2, .ref 69), (3, .ref 86), (4, .int (nI i))], [.int (xs (nI i).toNatClampNeg)])) (h' := zH v w t) rfl (zk_inN (show i < Ls by omega) (by omega)) ?_
  rw [nI_clamp (show i < 2 ^ 31 by omega)]
  refine zx.adv 2 (f' := (40, [(0, .retAddr 0), (1, .ref 0), (2, .ref 69), (3, .ref 86), (4, .int (nI i))], [.int ((xs i) &&& 63)])) (h' := zH v w t) rfl ?_
  rw [show (xs i) &&& 63 = 45 from hc]
  refine zx.adv 2 (f' := (1646, [(0, .retAddr 0), (1, .ref 0), (2, .ref 69), (3, .ref 86), (4, .int (nI i))], [.ref 0])) (h' := zH v w t) rfl ?_
  skip
  · obtain ⟨a, v1, w1, v2, w2, h1, h2, hj⟩ := (zT_year (Ls := Ls) (xs := xs) (t := t) h ).i rfl rfl (Or.inl rfl)
    refine zx.cl (v := some (.int a)) (h' := zH v1 w1 t) rfl h1 ?_
    show zx zk_mt zk_ex Ls xs zm_311 (1649, [(0, .retAddr 0), (1, .ref 0), (2, .ref 69), (3, .ref 86), (4, .int (nI i))], [.int a]) (zH v1 w1 t) _
    refine zx.adv 1 (f' := (1650, [(0, .retAddr 0), (1, .ref 0), (2, .ref 69), (3, .ref 86), (4, .int (nI i))], [.ref 69, .int a])) (h' := zH v1 w1 t) rfl ?_
    refine zx.cl (v := some (.int a)) (h' := zH v2 w2 t) rfl h2 ?_
    show zx zk_mt zk_ex Ls xs zm_311 (1653, [(0, .retAddr 0), (1, .ref 0), (2, .ref 69), (3, .ref 86), (4, .int (nI i))], [.int a, .int a]) (zH v2 w2 t) _
    refine zx.br (f1 := (1927, [(0, .retAddr 0), (1, .ref 0), (2, .ref 69), (3, .ref 86), (4, .int (nI i))], [])) (f2 := (1656, [(0, .retAddr 0), (1, .ref 0), (2, .ref 69), (3, .ref 86), (4, .int (nI i))], [])) rfl (fun c2 => ?_) (fun c2 => absurd rfl (of_decide_eq_false c2))
    refine zx.adv 1 (f' := (1930, [(0, .retAddr 0), (1, .ref 0), (2, .ref 69), (3, .ref 86), (4, .int ((nI i) + 6))], [])) (h' := zH v2 w2 t) rfl ?_
    rw [show (nI i) + 6 = nI (i + 6) from nI_add i 6]
    refine zx.adv 1 (f' := (23, [(0, .retAddr 0), (1, .ref 0), (2, .ref 69), (3, .ref 86), (4, .int (nI (i + 6)))], [])) (h' := zH v2 w2 t) rfl ?_
    exact hQ v2 w2 t (by omega) (by omega) hj
theorem zlc_46 {Q : Option Value × zk_H → Prop} {i : Nat} (hL : Ls ≤ 3072) (hi : i + 6 ≤ Ls) (h : zJ v w) (hc : xs i &&& 63 = nI 46) (hQ : ∀ v2 w2 t2, t2.length ≤ t.length + 1 → zk_sl t2 ≤ zk_sl t + 6 → zJ v2 w2 → zx zk_mt zk_ex Ls xs zm_311 (23, [(0, .retAddr 0), (1, .ref 0), (2, .ref 69), (3, .ref 86), (4, .int (nI (i + 6)))], []) (zH v2 w2 t2) Q) : zx zk_mt zk_ex Ls xs zm_311 (23, [(0, .retAddr 0), (1, .ref 0), (2, .ref 69), (3, .ref 86), (4, .int (nI i))], []) (zH v w t) Q := by
  refine zx.adv 5 (f' := (30, [(0, .retAddr 0), (1, .ref 0), (2, .ref 69), (3, .ref 86), (4, .int (nI i))], [.int ((Int32.ofNat Ls) - 6), .int (nI i)])) (h' := zH v w t) rfl ?_
  refine zx.br (f1 := (1933, [(0, .retAddr 0), (1, .ref 0), (2, .ref 69), (3, .ref 86), (4, .int (nI i))], [])) (f2 := (33, [(0, .retAddr 0), (1, .ref 0), (2, .ref 69), (3, .ref 86), (4, .int (nI i))], [])) rfl (fun c1 => absurd (of_decide_eq_true c1) (zl_cmp0 hL (by omega) hi)) (fun c1 => ?_)
  refine zx.adv 2 (f' := (36, [(0, .retAddr 0), (1, .ref 0), (2, .ref 69), (3, .ref 86), (4, .int (nI i))], [.int (nI i), .retAddr 0])) (h' := zH v w t) rfl ?_
  refine zx.ob (f' := (37, [(0, .retAddr 0), (1, .ref 0), (2, .ref 69), (3, .ref 86), (4, .int (nI i))], [.int (xs (nI i).toNatClampNeg)])) (h' := zH v w t) rfl (zk_inN (show i < Ls by omega) (by omega)) ?_
  rw [nI_clamp (show i < 2 ^ 31 by omega)]
  refine zx.adv 2 (f' := (40, [(0, .retAddr 0), (1, .ref 0), (2, .ref 69), (3, .ref 86), (4, .int (nI i))], [.int ((xs i) &&& 63)])) (h' := zH v w t) rfl ?_
  rw [show (xs i) &&& 63 = 46 from hc]
  refine zx.adv 6 (f' := (1664, [(0, .retAddr 0), (1, .ref 0), (2, .ref 69), (3, .ref 86), (4, .int (nI i))], [.int ((nI i) + 1), .retAddr 0, .ref 0])) (h' := zH v w t) rfl ?_
  rw [show (nI i) + 1 = nI (i + 1) from nI_add i 1]
  refine zx.ob (f' := (1665, [(0, .retAddr 0), (1, .ref 0), (2, .ref 69), (3, .ref 86), (4, .int (nI i))], [.int (xs (nI (i + 1)).toNatClampNeg), .ref 0])) (h' := zH v w t) rfl (zk_inN (show (i + 1) < Ls by omega) (by omega)) ?_
  rw [nI_clamp (show (i + 1) < 2 ^ 31 by omega)]
  refine zx.adv 4 (f' := (1670, [(0, .retAddr 0), (1, .ref 0), (2, .ref 69), (3, .ref 86), (4, .int (nI i))], [.int ((nI i) + 2), .retAddr 0, .int (xs (i + 1)), .ref 0])) (h' := zH v w t) rfl ?_
  rw [show (nI i) + 2 = nI (i + 2) from nI_add i 2]
  refine zx.ob (f' := (1671, [(0, .retAddr 0), (1, .ref 0), (2, .ref 69), (3, .ref 86), (4, .int (nI i))], [.int (xs (nI (i + 2)).toNatClampNeg), .int (xs (i + 1)), .ref 0])) (h' := zH v w t) rfl (zk_inN (show (i + 2) < Ls by omega) (by omega)) ?_
  rw [nI_clamp (show (i + 2) < 2 ^ 31 by omega)]
  skip
  · obtain ⟨a, v1, w1, v2, w2, h1, h2, hj⟩ := (zT_put (Ls := Ls) (xs := xs) (t := t) h (xs (i + 1)) (xs (i + 2))).i rfl rfl (Or.inl rfl)
    refine zx.cl (v := some (.int a)) (h' := zH v1 w1 t) rfl h1 ?_
    show zx zk_mt zk_ex Ls xs zm_311 (1674, [(0, .retAddr 0), (1, .ref 0), (2, .ref 69), (3, .ref 86), (4, .int (nI i))], [.int a]) (zH v1 w1 t) _
    refine zx.adv 5 (f' := (1680, [(0, .retAddr 0), (1, .ref 0), (2, .ref 69), (3, .ref 86), (4, .int (nI i))], [.int ((nI i) + 1), .retAddr 0, .ref 69, .int a])) (h' := zH v1 w1 t) rfl ?_
    rw [show (nI i) + 1 = nI (i + 1) from nI_add i 1]
    refine zx.ob (f' := (1681, [(0, .retAddr 0), (1, .ref 0), (2, .ref 69), (3, .ref 86), (4, .int (nI i))], [.int (xs (nI (i + 1)).toNatClampNeg), .ref 69, .int a])) (h' := zH v1 w1 t) rfl (zk_inN (show (i + 1) < Ls by omega) (by omega)) ?_
    rw [nI_clamp (show (i + 1) < 2 ^ 31 by omega)]
    refine zx.adv 4 (f' := (1686, [(0, .retAddr 0), (1, .ref 0), (2, .ref 69), (3, .ref 86), (4, .int (nI i))], [.int ((nI i) + 2), .retAddr 0, .int (xs (i + 1)), .ref 69, .int a])) (h' := zH v1 w1 t) rfl ?_
    rw [show (nI i) + 2 = nI (i + 2) from nI_add i 2]
    refine zx.ob (f' := (1687, [(0, .retAddr 0), (1, .ref 0), (2, .ref 69), (3, .ref 86), (4, .int (nI i))], [.int (xs (nI (i + 2)).toNatClampNeg), .int (xs (i + 1)), .ref 69, .int a])) (h' := zH v1 w1 t) rfl (zk_inN (show (i + 2) < Ls by omega) (by omega)) ?_
    rw [nI_clamp (show (i + 2) < 2 ^ 31 by omega)]
    refine zx.cl (v := some (.int a)) (h' := zH v2 w2 t) rfl h2 ?_
    show zx zk_mt zk_ex Ls xs zm_311 (1690, [(0, .retAddr 0), (1, .ref 0), (2, .ref 69), (3, .ref 86), (4, .int (nI i))], [.int a, .int a]) (zH v2 w2 t) _
    refine zx.br (f1 := (1927, [(0, .retAddr 0), (1, .ref 0), (2, .ref 69), (3, .ref 86), (4, .int (nI i))], [])) (f2 := (1693, [(0, .retAddr 0), (1, .ref 0), (2, .ref 69), (3, .ref 86), (4, .int (nI i))], [])) rfl (fun c2 => ?_) (fun c2 => absurd rfl (of_decide_eq_false c2))
    refine zx.adv 1 (f' := (1930, [(0, .retAddr 0), (1, .ref 0), (2, .ref 69), (3, .ref 86), (4, .int ((nI i) + 6))], [])) (h' := zH v2 w2 t) rfl ?_
    rw [show (nI i) + 6 = nI (i + 6) from nI_add i 6]
    refine zx.adv 1 (f' := (23, [(0, .retAddr 0), (1, .ref 0), (2, .ref 69), (3, .ref 86), (4, .int (nI (i + 6)))], [])) (h' := zH v2 w2 t) rfl ?_
    exact hQ v2 w2 t (by omega) (by omega) hj
theorem zlc_47 {Q : Option Value × zk_H → Prop} {i : Nat} (hL : Ls ≤ 3072) (hi : i + 6 ≤ Ls) (h : zJ v w) (hc : xs i &&& 63 = nI 47) (hQ : ∀ v2 w2 t2, t2.length ≤ t.length + 1 → zk_sl t2 ≤ zk_sl t + 6 → zJ v2 w2 → zx zk_mt zk_ex Ls xs zm_311 (23, [(0, .retAddr 0), (1, .ref 0), (2, .ref 69), (3, .ref 86), (4, .int (nI (i + 6)))], []) (zH v2 w2 t2) Q) : zx zk_mt zk_ex Ls xs zm_311 (23, [(0, .retAddr 0), (1, .ref 0), (2, .ref 69), (3, .ref 86), (4, .int (nI i))], []) (zH v w t) Q := by
  refine zx.adv 5 (f' := (30, [(0, .retAddr 0), (1, .ref 0), (2, .ref 69), (3, .ref 86), (4, .int (nI i))], [.int ((Int32.ofNat Ls) - 6), .int (nI i)])) (h' := zH v w t) rfl ?_
  refine zx.br (f1 := (1933, [(0, .retAddr 0), (1, .ref 0), (2, .ref 69), (3, .ref 86), (4, .int (nI i))], [])) (f2 := (33, [(0, .retAddr 0), (1, .ref 0), (2, .ref 69), (3, .ref 86), (4, .int (nI i))], [])) rfl (fun c1 => absurd (of_decide_eq_true c1) (zl_cmp0 hL (by omega) hi)) (fun c1 => ?_)
  refine zx.adv 2 (f' := (36, [(0, .retAddr 0), (1, .ref 0), (2, .ref 69), (3, .ref 86), (4, .int (nI i))], [.int (nI i), .retAddr 0])) (h' := zH v w t) rfl ?_
  refine zx.ob (f' := (37, [(0, .retAddr 0), (1, .ref 0), (2, .ref 69), (3, .ref 86), (4, .int (nI i))], [.int (xs (nI i).toNatClampNeg)])) (h' := zH v w t) rfl (zk_inN (show i < Ls by omega) (by omega)) ?_
  rw [nI_clamp (show i < 2 ^ 31 by omega)]
  refine zx.adv 2 (f' := (40, [(0, .retAddr 0), (1, .ref 0), (2, .ref 69), (3, .ref 86), (4, .int (nI i))], [.int ((xs i) &&& 63)])) (h' := zH v w t) rfl ?_
  rw [show (xs i) &&& 63 = 47 from hc]
  refine zx.adv 6 (f' := (1701, [(0, .retAddr 0), (1, .ref 0), (2, .ref 69), (3, .ref 86), (4, .int (nI i))], [.int ((nI i) + 1), .retAddr 0, .ref 0])) (h' := zH v w t) rfl ?_
  rw [show (nI i) + 1 = nI (i + 1) from nI_add i 1]
  refine zx.ob (f' := (1702, [(0, .retAddr 0), (1, .ref 0), (2, .ref 69), (3, .ref 86), (4, .int (nI i))], [.int (xs (nI (i + 1)).toNatClampNeg), .ref 0])) (h' := zH v w t) rfl (zk_inN (show (i + 1) < Ls by omega) (by omega)) ?_
  rw [nI_clamp (show (i + 1) < 2 ^ 31 by omega)]
  skip
  · obtain ⟨a, v1, w1, v2, w2, h1, h2, hj⟩ := (zT_take (Ls := Ls) (xs := xs) (t := t) h (xs (i + 1))).i rfl rfl (Or.inl rfl)
    refine zx.cl (v := some (.int a)) (h' := zH v1 w1 t) rfl h1 ?_
    show zx zk_mt zk_ex Ls xs zm_311 (1705, [(0, .retAddr 0), (1, .ref 0), (2, .ref 69), (3, .ref 86), (4, .int (nI i))], [.int a]) (zH v1 w1 t) _
    refine zx.adv 5 (f' := (1711, [(0, .retAddr 0), (1, .ref 0), (2, .ref 69), (3, .ref 86), (4, .int (nI i))], [.int ((nI i) + 1), .retAddr 0, .ref 69, .int a])) (h' := zH v1 w1 t) rfl ?_
    rw [show (nI i) + 1 = nI (i + 1) from nI_add i 1]
    refine zx.ob (f' := (1712, [(0, .retAddr 0), (1, .ref 0), (2, .ref 69), (3, .ref 86), (4, .int (nI i))], [.int (xs (nI (i + 1)).toNatClampNeg), .ref 69, .int a])) (h' := zH v1 w1 t) rfl (zk_inN (show (i + 1) < Ls by omega) (by omega)) ?_
    rw [nI_clamp (show (i + 1) < 2 ^ 31 by omega)]
    refine zx.cl (v := some (.int a)) (h' := zH v2 w2 t) rfl h2 ?_
    show zx zk_mt zk_ex Ls xs zm_311 (1715, [(0, .retAddr 0), (1, .ref 0), (2, .ref 69), (3, .ref 86), (4, .int (nI i))], [.int a, .int a]) (zH v2 w2 t) _
    refine zx.br (f1 := (1927, [(0, .retAddr 0), (1, .ref 0), (2, .ref 69), (3, .ref 86), (4, .int (nI i))], [])) (f2 := (1718, [(0, .retAddr 0), (1, .ref 0), (2, .ref 69), (3, .ref 86), (4, .int (nI i))], [])) rfl (fun c2 => ?_) (fun c2 => absurd rfl (of_decide_eq_false c2))
    refine zx.adv 1 (f' := (1930, [(0, .retAddr 0), (1, .ref 0), (2, .ref 69), (3, .ref 86), (4, .int ((nI i) + 6))], [])) (h' := zH v2 w2 t) rfl ?_
    rw [show (nI i) + 6 = nI (i + 6) from nI_add i 6]
    refine zx.adv 1 (f' := (23, [(0, .retAddr 0), (1, .ref 0), (2, .ref 69), (3, .ref 86), (4, .int (nI (i + 6)))], [])) (h' := zH v2 w2 t) rfl ?_
    exact hQ v2 w2 t (by omega) (by omega) hj
theorem zlc_48 {Q : Option Value × zk_H → Prop} {i : Nat} (hL : Ls ≤ 3072) (hi : i + 6 ≤ Ls) (h : zJ v w) (hc : xs i &&& 63 = nI 48) (hQ : ∀ v2 w2 t2, t2.length ≤ t.length + 1 → zk_sl t2 ≤ zk_sl t + 6 → zJ v2 w2 → zx zk_mt zk_ex Ls xs zm_311 (23, [(0, .retAddr 0), (1, .ref 0), (2, .ref 69), (3, .ref 86), (4, .int (nI (i + 6)))], []) (zH v2 w2 t2) Q) : zx zk_mt zk_ex Ls xs zm_311 (23, [(0, .retAddr 0), (1, .ref 0), (2, .ref 69), (3, .ref 86), (4, .int (nI i))], []) (zH v w t) Q := by
  refine zx.adv 5 (f' := (30, [(0, .retAddr 0), (1, .ref 0), (2, .ref 69), (3, .ref 86), (4, .int (nI i))], [.int ((Int32.ofNat Ls) - 6), .int (nI i)])) (h' := zH v w t) rfl ?_
  refine zx.br (f1 := (1933, [(0, .retAddr 0), (1, .ref 0), (2, .ref 69), (3, .ref 86), (4, .int (nI i))], [])) (f2 := (33, [(0, .retAddr 0), (1, .ref 0), (2, .ref 69), (3, .ref 86), (4, .int (nI i))], [])) rfl (fun c1 => absurd (of_decide_eq_true c1) (zl_cmp0 hL (by omega) hi)) (fun c1 => ?_)
  refine zx.adv 2 (f' := (36, [(0, .retAddr 0), (1, .ref 0), (2, .ref 69), (3, .ref 86), (4, .int (nI i))], [.int (nI i), .retAddr 0])) (h' := zH v w t) rfl ?_
  refine zx.ob (f' := (37, [(0, .retAddr 0), (1, .ref 0), (2, .ref 69), (3, .ref 86), (4, .int (nI i))], [.int (xs (nI i).toNatClampNeg)])) (h' := zH v w t) rfl (zk_inN (show i < Ls by omega) (by omega)) ?_
  rw [nI_clamp (show i < 2 ^ 31 by omega)]
  refine zx.adv 2 (f' := (40, [(0, .retAddr 0), (1, .ref 0), (2, .ref 69), (3, .ref 86), (4, .int (nI i))], [.int ((xs i) &&& 63)])) (h' := zH v w t) rfl ?_
  rw [show (xs i) &&& 63 = 48 from hc]
  refine zx.adv 6 (f' := (1726, [(0, .retAddr 0), (1, .ref 0), (2, .ref 69), (3, .ref 86), (4, .int (nI i))], [.int ((nI i) + 1), .retAddr 0, .ref 0])) (h' := zH v w t) rfl ?_
  rw [show (nI i) + 1 = nI (i + 1) from nI_add i 1]
  refine zx.ob (f' := (1727, [(0, .retAddr 0), (1, .ref 0), (2, .ref 69), (3, .ref 86), (4, .int (nI i))], [.int (xs (nI (i + 1)).toNatClampNeg), .ref 0])) (h' := zH v w t) rfl (zk_inN (show (i + 1) < Ls by omega) (by omega)) ?_
  rw [nI_clamp (show (i + 1) < 2 ^ 31 by omega)]
  refine zx.adv 4 (f' := (1732, [(0, .retAddr 0), (1, .ref 0), (2, .ref 69), (3, .ref 86), (4, .int (nI i))], [.int ((nI i) + 2), .retAddr 0, .int (xs (i + 1)), .ref 0])) (h' := zH v w t) rfl ?_
  rw [show (nI i) + 2 = nI (i + 2) from nI_add i 2]
  refine zx.ob (f' := (1733, [(0, .retAddr 0), (1, .ref 0), (2, .ref 69), (3, .ref 86), (4, .int (nI i))], [.int (xs (nI (i + 2)).toNatClampNeg), .int (xs (i + 1)), .ref 0])) (h' := zH v w t) rfl (zk_inN (show (i + 2) < Ls by omega) (by omega)) ?_
  rw [nI_clamp (show (i + 2) < 2 ^ 31 by omega)]
  skip
  · obtain ⟨a, v1, w1, v2, w2, h1, h2, hj⟩ := (zT_think (Ls := Ls) (xs := xs) (t := t) h (xs (i + 1)) (xs (i + 2))).i rfl rfl (Or.inl rfl)
    refine zx.cl (v := some (.int a)) (h' := zH v1 w1 t) rfl h1 ?_
    show zx zk_mt zk_ex Ls xs zm_311 (1736, [(0, .retAddr 0), (1, .ref 0), (2, .ref 69), (3, .ref 86), (4, .int (nI i))], [.int a]) (zH v1 w1 t) _
    refine zx.adv 5 (f' := (1742, [(0, .retAddr 0), (1, .ref 0), (2, .ref 69), (3, .ref 86), (4, .int (nI i))], [.int ((nI i) + 1), .retAddr 0, .ref 69, .int a])) (h' := zH v1 w1 t) rfl ?_
    rw [show (nI i) + 1 = nI (i + 1) from nI_add i 1]
    refine zx.ob (f' := (1743, [(0, .retAddr 0), (1, .ref 0), (2, .ref 69), (3, .ref 86), (4, .int (nI i))], [.int (xs (nI (i + 1)).toNatClampNeg), .ref 69, .int a])) (h' := zH v1 w1 t) rfl (zk_inN (show (i + 1) < Ls by omega) (by omega)) ?_
    rw [nI_clamp (show (i + 1) < 2 ^ 31 by omega)]
    refine zx.adv 4 (f' := (1748, [(0, .retAddr 0), (1, .ref 0), (2, .ref 69), (3, .ref 86), (4, .int (nI i))], [.int ((nI i) + 2), .retAddr 0, .int (xs (i + 1)), .ref 69, .int a])) (h' := zH v1 w1 t) rfl ?_
    rw [show (nI i) + 2 = nI (i + 2) from nI_add i 2]
    refine zx.ob (f' := (1749, [(0, .retAddr 0), (1, .ref 0), (2, .ref 69), (3, .ref 86), (4, .int (nI i))], [.int (xs (nI (i + 2)).toNatClampNeg), .int (xs (i + 1)), .ref 69, .int a])) (h' := zH v1 w1 t) rfl (zk_inN (show (i + 2) < Ls by omega) (by omega)) ?_
    rw [nI_clamp (show (i + 2) < 2 ^ 31 by omega)]
    refine zx.cl (v := some (.int a)) (h' := zH v2 w2 t) rfl h2 ?_
    show zx zk_mt zk_ex Ls xs zm_311 (1752, [(0, .retAddr 0), (1, .ref 0), (2, .ref 69), (3, .ref 86), (4, .int (nI i))], [.int a, .int a]) (zH v2 w2 t) _
    refine zx.br (f1 := (1927, [(0, .retAddr 0), (1, .ref 0), (2, .ref 69), (3, .ref 86), (4, .int (nI i))], [])) (f2 := (1755, [(0, .retAddr 0), (1, .ref 0), (2, .ref 69), (3, .ref 86), (4, .int (nI i))], [])) rfl (fun c2 => ?_) (fun c2 => absurd rfl (of_decide_eq_false c2))
    refine zx.adv 1 (f' := (1930, [(0, .retAddr 0), (1, .ref 0), (2, .ref 69), (3, .ref 86), (4, .int ((nI i) + 6))], [])) (h' := zH v2 w2 t) rfl ?_
    rw [show (nI i) + 6 = nI (i + 6) from nI_add i 6]
    refine zx.adv 1 (f' := (23, [(0, .retAddr 0), (1, .ref 0), (2, .ref 69), (3, .ref 86), (4, .int (nI (i + 6)))], [])) (h' := zH v2 w2 t) rfl ?_
    exact hQ v2 w2 t (by omega) (by omega) hj
theorem zlc_49 {Q : Option Value × zk_H → Prop} {i : Nat} (hL : Ls ≤ 3072) (hi : i + 6 ≤ Ls) (h : zJ v w) (hc : xs i &&& 63 = nI 49) (hQ : ∀ v2 w2 t2, t2.length ≤ t.length + 1 → zk_sl t2 ≤ zk_sl t + 6 → zJ v2 w2 → zx zk_mt zk_ex Ls xs zm_311 (23, [(0, .retAddr 0), (1, .ref 0), (2, .ref 69), (3, .ref 86), (4, .int (nI (i + 6)))], []) (zH v2 w2 t2) Q) : zx zk_mt zk_ex Ls xs zm_311 (23, [(0, .retAddr 0), (1, .ref 0), (2, .ref 69), (3, .ref 86), (4, .int (nI i))], []) (zH v w t) Q := by
  refine zx.adv 5 (f' := (30, [(0, .retAddr 0), (1, .ref 0), (2, .ref 69), (3, .ref 86), (4, .int (nI i))], [.int ((Int32.ofNat Ls) - 6), .int (nI i)])) (h' := zH v w t) rfl ?_
  refine zx.br (f1 := (1933, [(0, .retAddr 0), (1, .ref 0), (2, .ref 69), (3, .ref 86), (4, .int (nI i))], [])) (f2 := (33, [(0, .retAddr 0), (1, .ref 0), (2, .ref 69), (3, .ref 86), (4, .int (nI i))], [])) rfl (fun c1 => absurd (of_decide_eq_true c1) (zl_cmp0 hL (by omega) hi)) (fun c1 => ?_)
  refine zx.adv 2 (f' := (36, [(0, .retAddr 0), (1, .ref 0), (2, .ref 69), (3, .ref 86), (4, .int (nI i))], [.int (nI i), .retAddr 0])) (h' := zH v w t) rfl ?_
  refine zx.ob (f' := (37, [(0, .retAddr 0), (1, .ref 0), (2, .ref 69), (3, .ref 86), (4, .int (nI i))], [.int (xs (nI i).toNatClampNeg)])) (h' := zH v w t) rfl (zk_inN (show i < Ls by omega) (by omega)) ?_
  rw [nI_clamp (show i < 2 ^ 31 by omega)]
  refine zx.adv 2 (f' := (40, [(0, .retAddr 0), (1, .ref 0), (2, .ref 69), (3, .ref 86), (4, .int (nI i))], [.int ((xs i) &&& 63)])) (h' := zH v w t) rfl ?_
  rw [show (xs i) &&& 63 = 49 from hc]
  refine zx.adv 6 (f' := (1763, [(0, .retAddr 0), (1, .ref 0), (2, .ref 69), (3, .ref 86), (4, .int (nI i))], [.int ((nI i) + 1), .retAddr 0, .ref 0])) (h' := zH v w t) rfl ?_
  rw [show (nI i) + 1 = nI (i + 1) from nI_add i 1]
  refine zx.ob (f' := (1764, [(0, .retAddr 0), (1, .ref 0), (2, .ref 69), (3, .ref 86), (4, .int (nI i))], [.int (xs (nI (i + 1)).toNatClampNeg), .ref 0])) (h' := zH v w t) rfl (zk_inN (show (i + 1) < Ls by omega) (by omega)) ?_
  rw [nI_clamp (show (i + 1) < 2 ^ 31 by omega)]
  skip
  · obtain ⟨a, v1, w1, v2, w2, h1, h2, hj⟩ := (zT_mend (Ls := Ls) (xs := xs) (t := t) h (xs (i + 1))).i rfl rfl (Or.inr rfl)
    refine zx.cl (v := some (.int a)) (h' := zH v1 w1 t) rfl h1 ?_
    show zx zk_mt zk_ex Ls xs zm_311 (1767, [(0, .retAddr 0), (1, .ref 0), (2, .ref 69), (3, .ref 86), (4, .int (nI i))], [.int a]) (zH v1 w1 t) _
    refine zx.adv 5 (f' := (1773, [(0, .retAddr 0), (1, .ref 0), (2, .ref 69), (3, .ref 86), (4, .int (nI i))], [.int ((nI i) + 1), .retAddr 0, .ref 69, .int a])) (h' := zH v1 w1 t) rfl ?_
    rw [show (nI i) + 1 = nI (i + 1) from nI_add i 1]
    refine zx.ob (f' := (1774, [(0, .retAddr 0), (1, .ref 0), (2, .ref 69), (3, .ref 86), (4, .int (nI i))], [.int (xs (nI (i + 1)).toNatClampNeg), .ref 69, .int a])) (h' := zH v1 w1 t) rfl (zk_inN (show (i + 1) < Ls by omega) (by omega)) ?_
    rw [nI_clamp (show (i + 1) < 2 ^ 31 by omega)]
    refine zx.cl (v := some (.int a)) (h' := zH v2 w2 t) rfl h2 ?_
    show zx zk_mt zk_ex Ls xs zm_311 (1777, [(0, .retAddr 0), (1, .ref 0), (2, .ref 69), (3, .ref 86), (4, .int (nI i))], [.int a, .int a]) (zH v2 w2 t) _
    refine zx.br (f1 := (1927, [(0, .retAddr 0), (1, .ref 0), (2, .ref 69), (3, .ref 86), (4, .int (nI i))], [])) (f2 := (1780, [(0, .retAddr 0), (1, .ref 0), (2, .ref 69), (3, .ref 86), (4, .int (nI i))], [])) rfl (fun c2 => ?_) (fun c2 => absurd rfl (of_decide_eq_false c2))
    refine zx.adv 1 (f' := (1930, [(0, .retAddr 0), (1, .ref 0), (2, .ref 69), (3, .ref 86), (4, .int ((nI i) + 6))], [])) (h' := zH v2 w2 t) rfl ?_
    rw [show (nI i) + 6 = nI (i + 6) from nI_add i 6]
    refine zx.adv 1 (f' := (23, [(0, .retAddr 0), (1, .ref 0), (2, .ref 69), (3, .ref 86), (4, .int (nI (i + 6)))], [])) (h' := zH v2 w2 t) rfl ?_
    exact hQ v2 w2 t (by omega) (by omega) hj
theorem zlc_50 {Q : Option Value × zk_H → Prop} {i : Nat} (hL : Ls ≤ 3072) (hi : i + 6 ≤ Ls) (h : zJ v w) (hc : xs i &&& 63 = nI 50) (hQ : ∀ v2 w2 t2, t2.length ≤ t.length + 1 → zk_sl t2 ≤ zk_sl t + 6 → zJ v2 w2 → zx zk_mt zk_ex Ls xs zm_311 (23, [(0, .retAddr 0), (1, .ref 0), (2, .ref 69), (3, .ref 86), (4, .int (nI (i + 6)))], []) (zH v2 w2 t2) Q) : zx zk_mt zk_ex Ls xs zm_311 (23, [(0, .retAddr 0), (1, .ref 0), (2, .ref 69), (3, .ref 86), (4, .int (nI i))], []) (zH v w t) Q := by
  refine zx.adv 5 (f' := (30, [(0, .retAddr 0), (1, .ref 0), (2, .ref 69), (3, .ref 86), (4, .int (nI i))], [.int ((Int32.ofNat Ls) - 6), .int (nI i)])) (h' := zH v w t) rfl ?_
  refine zx.br (f1 := (1933, [(0, .retAddr 0), (1, .ref 0), (2, .ref 69), (3, .ref 86), (4, .int (nI i))], [])) (f2 := (33, [(0, .retAddr 0), (1, .ref 0), (2, .ref 69), (3, .ref 86), (4, .int (nI i))], [])) rfl (fun c1 => absurd (of_decide_eq_true c1) (zl_cmp0 hL (by omega) hi)) (fun c1 => ?_)
  refine zx.adv 2 (f' := (36, [(0, .retAddr 0), (1, .ref 0), (2, .ref 69), (3, .ref 86), (4, .int (nI i))], [.int (nI i), .retAddr 0])) (h' := zH v w t) rfl ?_
  refine zx.ob (f' := (37, [(0, .retAddr 0), (1, .ref 0), (2, .ref 69), (3, .ref 86), (4, .int (nI i))], [.int (xs (nI i).toNatClampNeg)])) (h' := zH v w t) rfl (zk_inN (show i < Ls by omega) (by omega)) ?_
  rw [nI_clamp (show i < 2 ^ 31 by omega)]
  refine zx.adv 2 (f' := (40, [(0, .retAddr 0), (1, .ref 0), (2, .ref 69), (3, .ref 86), (4, .int (nI i))], [.int ((xs i) &&& 63)])) (h' := zH v w t) rfl ?_
  rw [show (xs i) &&& 63 = 50 from hc]
  refine zx.adv 2 (f' := (1783, [(0, .retAddr 0), (1, .ref 0), (2, .ref 69), (3, .ref 86), (4, .int (nI i))], [.ref 0])) (h' := zH v w t) rfl ?_
  skip
  · obtain ⟨a, v1, w1, v2, w2, h1, h2, hj⟩ := (zT_undo (Ls := Ls) (xs := xs) (t := t) h ).i rfl rfl (Or.inr rfl)
    refine zx.cl (v := some (.int a)) (h' := zH v1 w1 t) rfl h1 ?_
    show zx zk_mt zk_ex Ls xs zm_311 (1786, [(0, .retAddr 0), (1, .ref 0), (2, .ref 69), (3, .ref 86), (4, .int (nI i))], [.int a]) (zH v1 w1 t) _
    refine zx.adv 1 (f' := (1787, [(0, .retAddr 0), (1, .ref 0), (2, .ref 69), (3, .ref 86), (4, .int (nI i))], [.ref 69, .int a])) (h' := zH v1 w1 t) rfl ?_
    refine zx.cl (v := some (.int a)) (h' := zH v2 w2 t) rfl h2 ?_
    show zx zk_mt zk_ex Ls xs zm_311 (1790, [(0, .retAddr 0), (1, .ref 0), (2, .ref 69), (3, .ref 86), (4, .int (nI i))], [.int a, .int a]) (zH v2 w2 t) _
    refine zx.br (f1 := (1927, [(0, .retAddr 0), (1, .ref 0), (2, .ref 69), (3, .ref 86), (4, .int (nI i))], [])) (f2 := (1793, [(0, .retAddr 0), (1, .ref 0), (2, .ref 69), (3, .ref 86), (4, .int (nI i))], [])) rfl (fun c2 => ?_) (fun c2 => absurd rfl (of_decide_eq_false c2))
    refine zx.adv 1 (f' := (1930, [(0, .retAddr 0), (1, .ref 0), (2, .ref 69), (3, .ref 86), (4, .int ((nI i) + 6))], [])) (h' := zH v2 w2 t) rfl ?_
    rw [show (nI i) + 6 = nI (i + 6) from nI_add i 6]
    refine zx.adv 1 (f' := (23, [(0, .retAddr 0), (1, .ref 0), (2, .ref 69), (3, .ref 86), (4, .int (nI (i + 6)))], [])) (h' := zH v2 w2 t) rfl ?_
    exact hQ v2 w2 t (by omega) (by omega) hj
theorem zlc_51 {Q : Option Value × zk_H → Prop} {i : Nat} (hL : Ls ≤ 3072) (hi : i + 6 ≤ Ls) (h : zJ v w) (hc : xs i &&& 63 = nI 51) (hQ : ∀ v2 w2 t2, t2.length ≤ t.length + 1 → zk_sl t2 ≤ zk_sl t + 6 → zJ v2 w2 → zx zk_mt zk_ex Ls xs zm_311 (23, [(0, .retAddr 0), (1, .ref 0), (2, .ref 69), (3, .ref 86), (4, .int (nI (i + 6)))], []) (zH v2 w2 t2) Q) : zx zk_mt zk_ex Ls xs zm_311 (23, [(0, .retAddr 0), (1, .ref 0), (2, .ref 69), (3, .ref 86), (4, .int (nI i))], []) (zH v w t) Q := by
  refine zx.adv 5 (f' := (30, [(0, .retAddr 0), (1, .ref 0), (2, .ref 69), (3, .ref 86), (4, .int (nI i))], [.int ((Int32.ofNat Ls) - 6), .int (nI i)])) (h' := zH v w t) rfl ?_
  refine zx.br (f1 := (1933, [(0, .retAddr 0), (1, .ref 0), (2, .ref 69), (3, .ref 86), (4, .int (nI i))], [])) (f2 := (33, [(0, .retAddr 0), (1, .ref 0), (2, .ref 69), (3, .ref 86), (4, .int (nI i))], [])) rfl (fun c1 => absurd (of_decide_eq_true c1) (zl_cmp0 hL (by omega) hi)) (fun c1 => ?_)
  refine zx.adv 2 (f' := (36, [(0, .retAddr 0), (1, .ref 0), (2, .ref 69), (3, .ref 86), (4, .int (nI i))], [.int (nI i), .retAddr 0])) (h' := zH v w t) rfl ?_
  refine zx.ob (f' := (37, [(0, .retAddr 0), (1, .ref 0), (2, .ref 69), (3, .ref 86), (4, .int (nI i))], [.int (xs (nI i).toNatClampNeg)])) (h' := zH v w t) rfl (zk_inN (show i < Ls by omega) (by omega)) ?_
  rw [nI_clamp (show i < 2 ^ 31 by omega)]
  refine zx.adv 2 (f' := (40, [(0, .retAddr 0), (1, .ref 0), (2, .ref 69), (3, .ref 86), (4, .int (nI i))], [.int ((xs i) &&& 63)])) (h' := zH v w t) rfl ?_
  rw [show (xs i) &&& 63 = 51 from hc]
  refine zx.adv 2 (f' := (1796, [(0, .retAddr 0), (1, .ref 0), (2, .ref 69), (3, .ref 86), (4, .int (nI i))], [.ref 0])) (h' := zH v w t) rfl ?_
  skip
  · obtain ⟨a, v1, w1, v2, w2, h1, h2, hj⟩ := (zT_image (Ls := Ls) (xs := xs) (t := t) h ).i rfl rfl (Or.inl rfl)
    refine zx.cl (v := some (.int a)) (h' := zH v1 w1 t) rfl h1 ?_
    show zx zk_mt zk_ex Ls xs zm_311 (1799, [(0, .retAddr 0), (1, .ref 0), (2, .ref 69), (3, .ref 86), (4, .int (nI i))], [.int a]) (zH v1 w1 t) _
    refine zx.adv 1 (f' := (1800, [(0, .retAddr 0), (1, .ref 0), (2, .ref 69), (3, .ref 86), (4, .int (nI i))], [.ref 69, .int a])) (h' := zH v1 w1 t) rfl ?_
    refine zx.cl (v := some (.int a)) (h' := zH v2 w2 t) rfl h2 ?_
    show zx zk_mt zk_ex Ls xs zm_311 (1803, [(0, .retAddr 0), (1, .ref 0), (2, .ref 69), (3, .ref 86), (4, .int (nI i))], [.int a, .int a]) (zH v2 w2 t) _
    refine zx.br (f1 := (1927, [(0, .retAddr 0), (1, .ref 0), (2, .ref 69), (3, .ref 86), (4, .int (nI i))], [])) (f2 := (1806, [(0, .retAddr 0), (1, .ref 0), (2, .ref 69), (3, .ref 86), (4, .int (nI i))], [])) rfl (fun c2 => ?_) (fun c2 => absurd rfl (of_decide_eq_false c2))
    refine zx.adv 1 (f' := (1930, [(0, .retAddr 0), (1, .ref 0), (2, .ref 69), (3, .ref 86), (4, .int ((nI i) + 6))], [])) (h' := zH v2 w2 t) rfl ?_
    rw [show (nI i) + 6 = nI (i + 6) from nI_add i 6]
    refine zx.adv 1 (f' := (23, [(0, .retAddr 0), (1, .ref 0), (2, .ref 69), (3, .ref 86), (4, .int (nI (i + 6)))], [])) (h' := zH v2 w2 t) rfl ?_
    exact hQ v2 w2 t (by omega) (by omega) hj
theorem zlc_52 {Q : Option Value × zk_H → Prop} {i : Nat} (hL : Ls ≤ 3072) (hi : i + 6 ≤ Ls) (h : zJ v w) (hc : xs i &&& 63 = nI 52) (hQ : ∀ v2 w2 t2, t2.length ≤ t.length + 1 → zk_sl t2 ≤ zk_sl t + 6 → zJ v2 w2 → zx zk_mt zk_ex Ls xs zm_311 (23, [(0, .retAddr 0), (1, .ref 0), (2, .ref 69), (3, .ref 86), (4, .int (nI (i + 6)))], []) (zH v2 w2 t2) Q) : zx zk_mt zk_ex Ls xs zm_311 (23, [(0, .retAddr 0), (1, .ref 0), (2, .ref 69), (3, .ref 86), (4, .int (nI i))], []) (zH v w t) Q := by
  refine zx.adv 5 (f' := (30, [(0, .retAddr 0), (1, .ref 0), (2, .ref 69), (3, .ref 86), (4, .int (nI i))], [.int ((Int32.ofNat Ls) - 6), .int (nI i)])) (h' := zH v w t) rfl ?_
  refine zx.br (f1 := (1933, [(0, .retAddr 0), (1, .ref 0), (2, .ref 69), (3, .ref 86), (4, .int (nI i))], [])) (f2 := (33, [(0, .retAddr 0), (1, .ref 0), (2, .ref 69), (3, .ref 86), (4, .int (nI i))], [])) rfl (fun c1 => absurd (of_decide_eq_true c1) (zl_cmp0 hL (by omega) hi)) (fun c1 => ?_)
  refine zx.adv 2 (f' := (36, [(0, .retAddr 0), (1, .ref 0), (2, .ref 69), (3, .ref 86), (4, .int (nI i))], [.int (nI i), .retAddr 0])) (h' := zH v w t) rfl ?_
  refine zx.ob (f' := (37, [(0, .retAddr 0), (1, .ref 0), (2, .ref 69), (3, .ref 86), (4, .int (nI i))], [.int (xs (nI i).toNatClampNeg)])) (h' := zH v w t) rfl (zk_inN (show i < Ls by omega) (by omega)) ?_
  rw [nI_clamp (show i < 2 ^ 31 by omega)]
  refine zx.adv 2 (f' := (40, [(0, .retAddr 0), (1, .ref 0), (2, .ref 69), (3, .ref 86), (4, .int (nI i))], [.int ((xs i) &&& 63)])) (h' := zH v w t) rfl ?_
  rw [show (xs i) &&& 63 = 52 from hc]
  refine zx.adv 6 (f' := (1814, [(0, .retAddr 0), (1, .ref 0), (2, .ref 69), (3, .ref 86), (4, .int (nI i))], [.int ((nI i) + 1), .retAddr 0, .ref 0])) (h' := zH v w t) rfl ?_
  rw [show (nI i) + 1 = nI (i + 1) from nI_add i 1]
  refine zx.ob (f' := (1815, [(0, .retAddr 0), (1, .ref 0), (2, .ref 69), (3, .ref 86), (4, .int (nI i))], [.int (xs (nI (i + 1)).toNatClampNeg), .ref 0])) (h' := zH v w t) rfl (zk_inN (show (i + 1) < Ls by omega) (by omega)) ?_
  rw [nI_clamp (show (i + 1) < 2 ^ 31 by omega)]
  skip
  · obtain ⟨a, v1, w1, v2, w2, h1, h2, hj⟩ := (zT_back (Ls := Ls) (xs := xs) (t := t) h (xs (i + 1))).i rfl rfl (Or.inr rfl)
    refine zx.cl (v := some (.int a)) (h' := zH v1 w1 t) rfl h1 ?_
    show zx zk_mt zk_ex Ls xs zm_311 (1818, [(0, .retAddr 0), (1, .ref 0), (2, .ref 69), (3, .ref 86), (4, .int (nI i))], [.int a]) (zH v1 w1 t) _
    refine zx.adv 5 (f' := (1824, [(0, .retAddr 0), (1, .ref 0), (2, .ref 69), (3, .ref 86), (4, .int (nI i))], [.int ((nI i) + 1), .retAddr 0, .ref 69, .int a])) (h' := zH v1 w1 t) rfl ?_
    rw [show (nI i) + 1 = nI (i + 1) from nI_add i 1]
    refine zx.ob (f' := (1825, [(0, .retAddr 0), (1, .ref 0), (2, .ref 69), (3, .ref 86), (4, .int (nI i))], [.int (xs (nI (i + 1)).toNatClampNeg), .ref 69, .int a])) (h' := zH v1 w1 t) rfl (zk_inN (show (i + 1) < Ls by omega) (by omega)) ?_
    rw [nI_clamp (show (i + 1) < 2 ^ 31 by omega)]
    refine zx.cl (v := some (.int a)) (h' := zH v2 w2 t) rfl h2 ?_
    show zx zk_mt zk_ex Ls xs zm_311 (1828, [(0, .retAddr 0), (1, .ref 0), (2, .ref 69), (3, .ref 86), (4, .int (nI i))], [.int a, .int a]) (zH v2 w2 t) _
    refine zx.br (f1 := (1927, [(0, .retAddr 0), (1, .ref 0), (2, .ref 69), (3, .ref 86), (4, .int (nI i))], [])) (f2 := (1831, [(0, .retAddr 0), (1, .ref 0), (2, .ref 69), (3, .ref 86), (4, .int (nI i))], [])) rfl (fun c2 => ?_) (fun c2 => absurd rfl (of_decide_eq_false c2))
    refine zx.adv 1 (f' := (1930, [(0, .retAddr 0), (1, .ref 0), (2, .ref 69), (3, .ref 86), (4, .int ((nI i) + 6))], [])) (h' := zH v2 w2 t) rfl ?_
    rw [show (nI i) + 6 = nI (i + 6) from nI_add i 6]
    refine zx.adv 1 (f' := (23, [(0, .retAddr 0), (1, .ref 0), (2, .ref 69), (3, .ref 86), (4, .int (nI (i + 6)))], [])) (h' := zH v2 w2 t) rfl ?_
    exact hQ v2 w2 t (by omega) (by omega) hj
theorem zlc_53 {Q : Option Value × zk_H → Prop} {i : Nat} (hL : Ls ≤ 3072) (hi : i + 6 ≤ Ls) (h : zJ v w) (hc : xs i &&& 63 = nI 53) (hQ : ∀ v2 w2 t2, t2.length ≤ t.length + 1 → zk_sl t2 ≤ zk_sl t + 6 → zJ v2 w2 → zx zk_mt zk_ex Ls xs zm_311 (23, [(0, .retAddr 0), (1, .ref 0), (2, .ref 69), (3, .ref 86), (4, .int (nI (i + 6)))], []) (zH v2 w2 t2) Q) : zx zk_mt zk_ex Ls xs zm_311 (23, [(0, .retAddr 0), (1, .ref 0), (2, .ref 69), (3, .ref 86), (4, .int (nI i))], []) (zH v w t) Q := by
  rcases zT_led (Ls := Ls) (xs := xs) (t := t) h (xs (i + 1)) with ⟨g, v2, h1, h2, hg4, h0, hj⟩ | ⟨v2, h1, h2, h0, hj⟩
  ·
    refine zx.adv 5 (f' := (30, [(0, .retAddr 0), (1, .ref 0), (2, .ref 69), (3, .ref 86), (4, .int (nI i))], [.int ((Int32.ofNat Ls) - 6), .int (nI i)])) (h' := zH v w t) rfl ?_
    refine zx.br (f1 := (1933, [(0, .retAddr 0), (1, .ref 0), (2, .ref 69), (3, .ref 86), (4, .int (nI i))], [])) (f2 := (33, [(0, .retAddr 0), (1, .ref 0), (2, .ref 69), (3, .ref 86), (4, .int (nI i))], [])) rfl (fun c1 => absurd (of_decide_eq_true c1) (zl_cmp0 hL (by omega) hi)) (fun c1 => ?_)
    refine zx.adv 2 (f' := (36, [(0, .retAddr 0), (1, .ref 0), (2, .ref 69), (3, .ref 86), (4, .int (nI i))], [.int (nI i), .retAddr 0])) (h' := zH v w t) rfl ?_
    refine zx.ob (f' := (37, [(0, .retAddr 0), (1, .ref 0), (2, .ref 69), (3, .ref 86), (4, .int (nI i))], [.int (xs (nI i).toNatClampNeg)])) (h' := zH v w t) rfl (zk_inN (show i < Ls by omega) (by omega)) ?_
    rw [nI_clamp (show i < 2 ^ 31 by omega)]
    refine zx.adv 2 (f' := (40, [(0, .retAddr 0), (1, .ref 0), (2, .ref 69), (3, .ref 86), (4, .int (nI i))], [.int ((xs i) &&& 63)])) (h' := zH v w t) rfl ?_
    rw [show (xs i) &&& 63 = 53 from hc]
    refine zx.adv 6 (f' := (1839, [(0, .retAddr 0), (1, .ref 0), (2, .ref 69), (3, .ref 86), (4, .int (nI i))], [.int ((nI i) + 1), .retAddr 0, .ref 0])) (h' := zH v w t) rfl ?_
    rw [show (nI i) + 1 = nI (i + 1) from nI_add i 1]
    refine zx.ob (f' := (1840, [(0, .retAddr 0), (1, .ref 0), (2, .ref 69), (3, .ref 86), (4, .int (nI i))], [.int (xs (nI (i + 1)).toNatClampNeg), .ref 0])) (h' := zH v w t) rfl (zk_inN (show (i + 1) < Ls by omega) (by omega)) ?_
    rw [nI_clamp (show (i + 1) < 2 ^ 31 by omega)]
    refine zx.adv 1 (f' := (1841, [(0, .retAddr 0), (1, .ref 0), (2, .ref 69), (3, .ref 86), (4, .int (nI i))], [.ref 86, .int (xs (i + 1)), .ref 0])) (h' := zH v w t) rfl ?_
    refine zx.cl (v := some (.int 0)) (h' := zH v (zb w 85 (vp_updL (w 85) 0 (nI g).toInt64)) t) rfl h1 ?_
    show zx zk_mt zk_ex Ls xs zm_311 (1844, [(0, .retAddr 0), (1, .ref 0), (2, .ref 69), (3, .ref 86), (4, .int (nI i))], [.int 0]) (zH v (zb w 85 (vp_updL (w 85) 0 (nI g).toInt64)) t) _
    refine zx.adv 6 (f' := (1852, [(0, .retAddr 0), (1, .ref 0), (2, .ref 69), (3, .ref 86), (4, .int (nI i)), (5, .int 0)], [.int ((nI i) + 1), .retAddr 0, .ref 69])) (h' := zH v (zb w 85 (vp_updL (w 85) 0 (nI g).toInt64)) t) rfl ?_
    rw [show (nI i) + 1 = nI (i + 1) from nI_add i 1]
    refine zx.ob (f' := (1853, [(0, .retAddr 0), (1, .ref 0), (2, .ref 69), (3, .ref 86), (4, .int (nI i)), (5, .int 0)], [.int (xs (nI (i + 1)).toNatClampNeg), .ref 69])) (h' := zH v (zb w 85 (vp_updL (w 85) 0 (nI g).toInt64)) t) rfl (zk_inN (show (i + 1) < Ls by omega) (by omega)) ?_
    rw [nI_clamp (show (i + 1) < 2 ^ 31 by omega)]
    refine zx.cl (v := some (.int (nI g))) (h' := zH v2 (zb w 85 (vp_updL (w 85) 0 (nI g).toInt64)) t) rfl h2 ?_
    show zx zk_mt zk_ex Ls xs zm_311 (1856, [(0, .retAddr 0), (1, .ref 0), (2, .ref 69), (3, .ref 86), (4, .int (nI i)), (5, .int 0)], [.int (nI g)]) (zH v2 (zb w 85 (vp_updL (w 85) 0 (nI g).toInt64)) t) _
    refine zx.adv 2 (f' := (1859, [(0, .retAddr 0), (1, .ref 0), (2, .ref 69), (3, .ref 86), (4, .int (nI i)), (5, .int 0), (6, .int (nI g))], [.ref 69])) (h' := zH v2 (zb w 85 (vp_updL (w 85) 0 (nI g).toInt64)) t) rfl ?_
    refine zx.cl (v := some (.int 0)) (h' := zH v2 (zb w 85 (vp_updL (w 85) 0 (nI g).toInt64)) t) rfl (by have ee := zM_thrown (v := v2) (w := (zb w 85 (vp_updL (w 85) 0 (nI g).toInt64))) (t := t) (Ls := Ls) (xs := xs); rw [h0] at ee; exact ee) ?_
    show zx zk_mt zk_ex Ls xs zm_311 (1862, [(0, .retAddr 0), (1, .ref 0), (2, .ref 69), (3, .ref 86), (4, .int (nI i)), (5, .int 0), (6, .int (nI g))], [.int 0]) (zH v2 (zb w 85 (vp_updL (w 85) 0 (nI g).toInt64)) t) _
    refine zx.adv 1 (f' := (1864, [(0, .retAddr 0), (1, .ref 0), (2, .ref 69), (3, .ref 86), (4, .int (nI i)), (5, .int 0), (6, .int (nI g))], [.int 0, .int 0])) (h' := zH v2 (zb w 85 (vp_updL (w 85) 0 (nI g).toInt64)) t) rfl ?_
    refine zx.br (f1 := (1869, [(0, .retAddr 0), (1, .ref 0), (2, .ref 69), (3, .ref 86), (4, .int (nI i)), (5, .int 0), (6, .int (nI g))], [])) (f2 := (1867, [(0, .retAddr 0), (1, .ref 0), (2, .ref 69), (3, .ref 86), (4, .int (nI i)), (5, .int 0), (6, .int (nI g))], [])) rfl (fun c2 => ?_) (fun c2 => absurd (by decide) (of_decide_eq_false c2))
    refine zx.adv 1 (f' := (1871, [(0, .retAddr 0), (1, .ref 0), (2, .ref 69), (3, .ref 86), (4, .int (nI i)), (5, .int 0), (6, .int (nI g))], [.int 0])) (h' := zH v2 (zb w 85 (vp_updL (w 85) 0 (nI g).toInt64)) t) rfl ?_
    refine zx.br (f1 := (1874, [(0, .retAddr 0), (1, .ref 0), (2, .ref 69), (3, .ref 86), (4, .int (nI i)), (5, .int 0), (6, .int (nI g))], [])) (f2 := (1886, [(0, .retAddr 0), (1, .ref 0), (2, .ref 69), (3, .ref 86), (4, .int (nI i)), (5, .int 0), (6, .int (nI g))], [])) rfl (fun c3 => ?_) (fun c3 => absurd (by decide) (of_decide_eq_false c3))
    refine zx.adv 2 (f' := (1876, [(0, .retAddr 0), (1, .ref 0), (2, .ref 69), (3, .ref 86), (4, .int (nI i)), (5, .int 0), (6, .int (nI g))], [.int 0, .ref 86])) (h' := zH v2 (zb w 85 (vp_updL (w 85) 0 (nI g).toInt64)) t) rfl ?_
    refine zx.ob (f' := (1877, [(0, .retAddr 0), (1, .ref 0), (2, .ref 69), (3, .ref 86), (4, .int (nI i)), (5, .int 0), (6, .int (nI g))], [.long ((vp_updL (w 85) 0 (nI g).toInt64) (0 : Int32).toNatClampNeg)])) (h' := zH v2 (zb w 85 (vp_updL (w 85) 0 (nI g).toInt64)) t) rfl rfl ?_
    show zx zk_mt zk_ex Ls xs zm_311 (1877, [(0, .retAddr 0), (1, .ref 0), (2, .ref 69), (3, .ref 86), (4, .int (nI i)), (5, .int 0), (6, .int (nI g))], [.long ((vp_updL (w 85) 0 (nI g).toInt64) 0)]) (zH v2 (zb w 85 (vp_updL (w 85) 0 (nI g).toInt64)) t) _
    rw [show (vp_updL (w 85) 0 (nI g).toInt64) 0 = (nI g).toInt64 from rfl]
    refine zx.adv 3 (f' := (1881, [(0, .retAddr 0), (1, .ref 0), (2, .ref 69), (3, .ref 86), (4, .int (nI i)), (5, .int 0), (6, .int (nI g))], [.int (lg_cmp ((nI g).toInt64) ((nI g : Int32).toInt64))])) (h' := zH v2 (zb w 85 (vp_updL (w 85) 0 (nI g).toInt64)) t) rfl ?_
    refine zx.br (f1 := (1886, [(0, .retAddr 0), (1, .ref 0), (2, .ref 69), (3, .ref 86), (4, .int (nI i)), (5, .int 0), (6, .int (nI g))], [])) (f2 := (1884, [(0, .retAddr 0), (1, .ref 0), (2, .ref 69), (3, .ref 86), (4, .int (nI i)), (5, .int 0), (6, .int (nI g))], [])) rfl (fun c4 => ?_) (fun c4 => absurd (zp_cmp.mpr rfl) (of_decide_eq_false c4))
    refine zx.adv 2 (f' := (1930, [(0, .retAddr 0), (1, .ref 0), (2, .ref 69), (3, .ref 86), (4, .int ((nI i) + 6)), (5, .int 0), (6, .int (nI g))], [])) (h' := zH v2 (zb w 85 (vp_updL (w 85) 0 (nI g).toInt64)) t) rfl ?_
    rw [show (nI i) + 6 = nI (i + 6) from nI_add i 6]
    refine zx.adv 1 (f' := (23, [(0, .retAddr 0), (1, .ref 0), (2, .ref 69), (3, .ref 86), (4, .int (nI (i + 6)))], [])) (h' := zH v2 (zb w 85 (vp_updL (w 85) 0 (nI g).toInt64)) t) rfl ?_
    exact hQ v2 _ t (by omega) (by omega) hj
  ·
    refine zx.adv 5 (f' := (30, [(0, .retAddr 0), (1, .ref 0), (2, .ref 69), (3, .ref 86), (4, .int (nI i))], [.int ((Int32.ofNat Ls) - 6), .int (nI i)])) (h' := zH v w t) rfl ?_
    refine zx.br (f1 := (1933, [(0, .retAddr 0), (1, .ref 0), (2, .ref 69), (3, .ref 86), (4, .int (nI i))], [])) (f2 := (33, [(0, .retAddr 0), (1, .ref 0), (2, .ref 69), (3, .ref 86), (4, .int (nI i))], [])) rfl (fun c1 => absurd (of_decide_eq_true c1) (zl_cmp0 hL (by omega) hi)) (fun c1 => ?_)
    refine zx.adv 2 (f' := (36, [(0, .retAddr 0), (1, .ref 0), (2, .ref 69), (3, .ref 86), (4, .int (nI i))], [.int (nI i), .retAddr 0])) (h' := zH v w t) rfl ?_
    refine zx.ob (f' := (37, [(0, .retAddr 0), (1, .ref 0), (2, .ref 69), (3, .ref 86), (4, .int (nI i))], [.int (xs (nI i).toNatClampNeg)])) (h' := zH v w t) rfl (zk_inN (show i < Ls by omega) (by omega)) ?_
    rw [nI_clamp (show i < 2 ^ 31 by omega)]
    refine zx.adv 2 (f' := (40, [(0, .retAddr 0), (1, .ref 0), (2, .ref 69), (3, .ref 86), (4, .int (nI i))], [.int ((xs i) &&& 63)])) (h' := zH v w t) rfl ?_
    rw [show (xs i) &&& 63 = 53 from hc]
    refine zx.adv 6 (f' := (1839, [(0, .retAddr 0), (1, .ref 0), (2, .ref 69), (3, .ref 86), (4, .int (nI i))], [.int ((nI i) + 1), .retAddr 0, .ref 0])) (h' := zH v w t) rfl ?_
    rw [show (nI i) + 1 = nI (i + 1) from nI_add i 1]
    refine zx.ob (f' := (1840, [(0, .retAddr 0), (1, .ref 0), (2, .ref 69), (3, .ref 86), (4, .int (nI i))], [.int (xs (nI (i + 1)).toNatClampNeg), .ref 0])) (h' := zH v w t) rfl (zk_inN (show (i + 1) < Ls by omega) (by omega)) ?_
    rw [nI_clamp (show (i + 1) < 2 ^ 31 by omega)]
    refine zx.adv 1 (f' := (1841, [(0, .retAddr 0), (1, .ref 0), (2, .ref 69), (3, .ref 86), (4, .int (nI i))], [.ref 86, .int (xs (i + 1)), .ref 0])) (h' := zH v w t) rfl ?_
    refine zx.cl (v := some (.int 1)) (h' := zH v w (t ++ zy_junk)) rfl h1 ?_
    show zx zk_mt zk_ex Ls xs zm_311 (1844, [(0, .retAddr 0), (1, .ref 0), (2, .ref 69), (3, .ref 86), (4, .int (nI i))], [.int 1]) (zH v w (t ++ zy_junk)) _
    refine zx.adv 6 (f' := (1852, [(0, .retAddr 0), (1, .ref 0), (2, .ref 69), (3, .ref 86), (4, .int (nI i)), (5, .int 1)], [.int ((nI i) + 1), .retAddr 0, .ref 69])) (h' := zH v w (t ++ zy_junk)) rfl ?_
    rw [show (nI i) + 1 = nI (i + 1) from nI_add i 1]
    refine zx.ob (f' := (1853, [(0, .retAddr 0), (1, .ref 0), (2, .ref 69), (3, .ref 86), (4, .int (nI i)), (5, .int 1)], [.int (xs (nI (i + 1)).toNatClampNeg), .ref 69])) (h' := zH v w (t ++ zy_junk)) rfl (zk_inN (show (i + 1) < Ls by omega) (by omega)) ?_
    rw [nI_clamp (show (i + 1) < 2 ^ 31 by omega)]
    refine zx.cl (v := some (.int 0)) (h' := zH v2 w (t ++ zy_junk)) rfl h2 ?_
    show zx zk_mt zk_ex Ls xs zm_311 (1856, [(0, .retAddr 0), (1, .ref 0), (2, .ref 69), (3, .ref 86), (4, .int (nI i)), (5, .int 1)], [.int 0]) (zH v2 w (t ++ zy_junk)) _
    refine zx.adv 2 (f' := (1859, [(0, .retAddr 0), (1, .ref 0), (2, .ref 69), (3, .ref 86), (4, .int (nI i)), (5, .int 1), (6, .int 0)], [.ref 69])) (h' := zH v2 w (t ++ zy_junk)) rfl ?_
    refine zx.cl (v := some (.int 1)) (h' := zH v2 w (t ++ zy_junk)) rfl (by have ee := zM_thrown (v := v2) (w := w) (t := (t ++ zy_junk)) (Ls := Ls) (xs := xs); rw [h0] at ee; exact ee) ?_
    show zx zk_mt zk_ex Ls xs zm_311 (1862, [(0, .retAddr 0), (1, .ref 0), (2, .ref 69), (3, .ref 86), (4, .int (nI i)), (5, .int 1), (6, .int 0)], [.int 1]) (zH v2 w (t ++ zy_junk)) _
    refine zx.adv 1 (f' := (1864, [(0, .retAddr 0), (1, .ref 0), (2, .ref 69), (3, .ref 86), (4, .int (nI i)), (5, .int 1), (6, .int 0)], [.int 1, .int 1])) (h' := zH v2 w (t ++ zy_junk)) rfl ?_
    refine zx.br (f1 := (1869, [(0, .retAddr 0), (1, .ref 0), (2, .ref 69), (3, .ref 86), (4, .int (nI i)), (5, .int 1), (6, .int 0)], [])) (f2 := (1867, [(0, .retAddr 0), (1, .ref 0), (2, .ref 69), (3, .ref 86), (4, .int (nI i)), (5, .int 1), (6, .int 0)], [])) rfl (fun c2 => ?_) (fun c2 => absurd (by decide) (of_decide_eq_false c2))
    refine zx.adv 1 (f' := (1871, [(0, .retAddr 0), (1, .ref 0), (2, .ref 69), (3, .ref 86), (4, .int (nI i)), (5, .int 1), (6, .int 0)], [.int 1])) (h' := zH v2 w (t ++ zy_junk)) rfl ?_
    refine zx.br (f1 := (1874, [(0, .retAddr 0), (1, .ref 0), (2, .ref 69), (3, .ref 86), (4, .int (nI i)), (5, .int 1), (6, .int 0)], [])) (f2 := (1886, [(0, .retAddr 0), (1, .ref 0), (2, .ref 69), (3, .ref 86), (4, .int (nI i)), (5, .int 1), (6, .int 0)], [])) rfl (fun c3 => absurd (of_decide_eq_true c3) (by decide)) (fun c3 => ?_)
    refine zx.adv 2 (f' := (1930, [(0, .retAddr 0), (1, .ref 0), (2, .ref 69), (3, .ref 86), (4, .int ((nI i) + 6)), (5, .int 1), (6, .int 0)], [])) (h' := zH v2 w (t ++ zy_junk)) rfl ?_
    rw [show (nI i) + 6 = nI (i + 6) from nI_add i 6]
    refine zx.adv 1 (f' := (23, [(0, .retAddr 0), (1, .ref 0), (2, .ref 69), (3, .ref 86), (4, .int (nI (i + 6)))], [])) (h' := zH v2 w (t ++ zy_junk)) rfl ?_
    exact hQ v2 w _ (by rw [List.length_append]; exact Nat.le_refl _) (by unfold zy_junk; rw [zk_sl_app]; exact Nat.le_refl _) hj
theorem zlc_54 {Q : Option Value × zk_H → Prop} {i : Nat} (hL : Ls ≤ 3072) (hi : i + 6 ≤ Ls) (h : zJ v w) (hc : xs i &&& 63 = nI 54) (hQ : ∀ v2 w2 t2, t2.length ≤ t.length + 1 → zk_sl t2 ≤ zk_sl t + 6 → zJ v2 w2 → zx zk_mt zk_ex Ls xs zm_311 (23, [(0, .retAddr 0), (1, .ref 0), (2, .ref 69), (3, .ref 86), (4, .int (nI (i + 6)))], []) (zH v2 w2 t2) Q) : zx zk_mt zk_ex Ls xs zm_311 (23, [(0, .retAddr 0), (1, .ref 0), (2, .ref 69), (3, .ref 86), (4, .int (nI i))], []) (zH v w t) Q := by
  refine zx.adv 5 (f' := (30, [(0, .retAddr 0), (1, .ref 0), (2, .ref 69), (3, .ref 86), (4, .int (nI i))], [.int ((Int32.ofNat Ls) - 6), .int (nI i)])) (h' := zH v w t) rfl ?_
  refine zx.br (f1 := (1933, [(0, .retAddr 0), (1, .ref 0), (2, .ref 69), (3, .ref 86), (4, .int (nI i))], [])) (f2 := (33, [(0, .retAddr 0), (1, .ref 0), (2, .ref 69), (3, .ref 86), (4, .int (nI i))], [])) rfl (fun c1 => absurd (of_decide_eq_true c1) (zl_cmp0 hL (by omega) hi)) (fun c1 => ?_)
  refine zx.adv 2 (f' := (36, [(0, .retAddr 0), (1, .ref 0), (2, .ref 69), (3, .ref 86), (4, .int (nI i))], [.int (nI i), .retAddr 0])) (h' := zH v w t) rfl ?_
  refine zx.ob (f' := (37, [(0, .retAddr 0), (1, .ref 0), (2, .ref 69), (3, .ref 86), (4, .int (nI i))], [.int (xs (nI i).toNatClampNeg)])) (h' := zH v w t) rfl (zk_inN (show i < Ls by omega) (by omega)) ?_
  rw [nI_clamp (show i < 2 ^ 31 by omega)]
  refine zx.adv 2 (f' := (40, [(0, .retAddr 0), (1, .ref 0), (2, .ref 69), (3, .ref 86), (4, .int (nI i))], [.int ((xs i) &&& 63)])) (h' := zH v w t) rfl ?_
  rw [show (xs i) &&& 63 = 54 from hc]
  refine zx.adv 6 (f' := (1895, [(0, .retAddr 0), (1, .ref 0), (2, .ref 69), (3, .ref 86), (4, .int (nI i))], [.int ((nI i) + 1), .retAddr 0, .ref 0])) (h' := zH v w t) rfl ?_
  rw [show (nI i) + 1 = nI (i + 1) from nI_add i 1]
  refine zx.ob (f' := (1896, [(0, .retAddr 0), (1, .ref 0), (2, .ref 69), (3, .ref 86), (4, .int (nI i))], [.int (xs (nI (i + 1)).toNatClampNeg), .ref 0])) (h' := zH v w t) rfl (zk_inN (show (i + 1) < Ls by omega) (by omega)) ?_
  rw [nI_clamp (show (i + 1) < 2 ^ 31 by omega)]
  skip
  · obtain ⟨a, v1, w1, v2, w2, h1, h2, hj⟩ := (zT_size (Ls := Ls) (xs := xs) (t := t) h (xs (i + 1))).i rfl rfl (Or.inl rfl)
    refine zx.cl (v := some (.int a)) (h' := zH v1 w1 t) rfl h1 ?_
    show zx zk_mt zk_ex Ls xs zm_311 (1899, [(0, .retAddr 0), (1, .ref 0), (2, .ref 69), (3, .ref 86), (4, .int (nI i))], [.int a]) (zH v1 w1 t) _
    refine zx.adv 5 (f' := (1905, [(0, .retAddr 0), (1, .ref 0), (2, .ref 69), (3, .ref 86), (4, .int (nI i))], [.int ((nI i) + 1), .retAddr 0, .ref 69, .int a])) (h' := zH v1 w1 t) rfl ?_
    rw [show (nI i) + 1 = nI (i + 1) from nI_add i 1]
    refine zx.ob (f' := (1906, [(0, .retAddr 0), (1, .ref 0), (2, .ref 69), (3, .ref 86), (4, .int (nI i))], [.int (xs (nI (i + 1)).toNatClampNeg), .ref 69, .int a])) (h' := zH v1 w1 t) rfl (zk_inN (show (i + 1) < Ls by omega) (by omega)) ?_
    rw [nI_clamp (show (i + 1) < 2 ^ 31 by omega)]
    refine zx.cl (v := some (.int a)) (h' := zH v2 w2 t) rfl h2 ?_
    show zx zk_mt zk_ex Ls xs zm_311 (1909, [(0, .retAddr 0), (1, .ref 0), (2, .ref 69), (3, .ref 86), (4, .int (nI i))], [.int a, .int a]) (zH v2 w2 t) _
    refine zx.br (f1 := (1927, [(0, .retAddr 0), (1, .ref 0), (2, .ref 69), (3, .ref 86), (4, .int (nI i))], [])) (f2 := (1912, [(0, .retAddr 0), (1, .ref 0), (2, .ref 69), (3, .ref 86), (4, .int (nI i))], [])) rfl (fun c2 => ?_) (fun c2 => absurd rfl (of_decide_eq_false c2))
    refine zx.adv 1 (f' := (1930, [(0, .retAddr 0), (1, .ref 0), (2, .ref 69), (3, .ref 86), (4, .int ((nI i) + 6))], [])) (h' := zH v2 w2 t) rfl ?_
    rw [show (nI i) + 6 = nI (i + 6) from nI_add i 6]
    refine zx.adv 1 (f' := (23, [(0, .retAddr 0), (1, .ref 0), (2, .ref 69), (3, .ref 86), (4, .int (nI (i + 6)))], [])) (h' := zH v2 w2 t) rfl ?_
    exact hQ v2 w2 t (by omega) (by omega) hj
theorem zlc_55 {Q : Option Value × zk_H → Prop} {i : Nat} (hL : Ls ≤ 3072) (hi : i + 6 ≤ Ls) (h : zJ v w) (hc : xs i &&& 63 = nI 55) (hQ : ∀ v2 w2 t2, t2.length ≤ t.length + 1 → zk_sl t2 ≤ zk_sl t + 6 → zJ v2 w2 → zx zk_mt zk_ex Ls xs zm_311 (23, [(0, .retAddr 0), (1, .ref 0), (2, .ref 69), (3, .ref 86), (4, .int (nI (i + 6)))], []) (zH v2 w2 t2) Q) : zx zk_mt zk_ex Ls xs zm_311 (23, [(0, .retAddr 0), (1, .ref 0), (2, .ref 69), (3, .ref 86), (4, .int (nI i))], []) (zH v w t) Q := by
  refine zx.adv 5 (f' := (30, [(0, .retAddr 0), (1, .ref 0), (2, .ref 69), (3, .ref 86), (4, .int (nI i))], [.int ((Int32.ofNat Ls) - 6), .int (nI i)])) (h' := zH v w t) rfl ?_
  refine zx.br (f1 := (1933, [(0, .retAddr 0), (1, .ref 0), (2, .ref 69), (3, .ref 86), (4, .int (nI i))], [])) (f2 := (33, [(0, .retAddr 0), (1, .ref 0), (2, .ref 69), (3, .ref 86), (4, .int (nI i))], [])) rfl (fun c1 => absurd (of_decide_eq_true c1) (zl_cmp0 hL (by omega) hi)) (fun c1 => ?_)
  refine zx.adv 2 (f' := (36, [(0, .retAddr 0), (1, .ref 0), (2, .ref 69), (3, .ref 86), (4, .int (nI i))], [.int (nI i), .retAddr 0])) (h' := zH v w t) rfl ?_
  refine zx.ob (f' := (37, [(0, .retAddr 0), (1, .ref 0), (2, .ref 69), (3, .ref 86), (4, .int (nI i))], [.int (xs (nI i).toNatClampNeg)])) (h' := zH v w t) rfl (zk_inN (show i < Ls by omega) (by omega)) ?_
  rw [nI_clamp (show i < 2 ^ 31 by omega)]
  refine zx.adv 2 (f' := (40, [(0, .retAddr 0), (1, .ref 0), (2, .ref 69), (3, .ref 86), (4, .int (nI i))], [.int ((xs i) &&& 63)])) (h' := zH v w t) rfl ?_
  rw [show (xs i) &&& 63 = 55 from hc]
  refine zx.adv 2 (f' := (1915, [(0, .retAddr 0), (1, .ref 0), (2, .ref 69), (3, .ref 86), (4, .int (nI i))], [.ref 0])) (h' := zH v w t) rfl ?_
  skip
  · obtain ⟨a, v1, w1, v2, w2, h1, h2, hj⟩ := (zT_trouble (Ls := Ls) (xs := xs) (t := t) h ).i rfl rfl (Or.inl rfl)
    refine zx.cl (v := some (.int a)) (h' := zH v1 w1 t) rfl h1 ?_
    show zx zk_mt zk_ex Ls xs zm_311 (1918, [(0, .retAddr 0), (1, .ref 0), (2, .ref 69), (3, .ref 86), (4, .int (nI i))], [.int a]) (zH v1 w1 t) _
    refine zx.adv 1 (f' := (1919, [(0, .retAddr 0), (1, .ref 0), (2, .ref 69), (3, .ref 86), (4, .int (nI i))], [.ref 69, .int a])) (h' := zH v1 w1 t) rfl ?_
    refine zx.cl (v := some (.int a)) (h' := zH v2 w2 t) rfl h2 ?_
    show zx zk_mt zk_ex Ls xs zm_311 (1922, [(0, .retAddr 0), (1, .ref 0), (2, .ref 69), (3, .ref 86), (4, .int (nI i))], [.int a, .int a]) (zH v2 w2 t) _
    refine zx.br (f1 := (1927, [(0, .retAddr 0), (1, .ref 0), (2, .ref 69), (3, .ref 86), (4, .int (nI i))], [])) (f2 := (1925, [(0, .retAddr 0), (1, .ref 0), (2, .ref 69), (3, .ref 86), (4, .int (nI i))], [])) rfl (fun c2 => ?_) (fun c2 => absurd rfl (of_decide_eq_false c2))
    refine zx.adv 1 (f' := (1930, [(0, .retAddr 0), (1, .ref 0), (2, .ref 69), (3, .ref 86), (4, .int ((nI i) + 6))], [])) (h' := zH v2 w2 t) rfl ?_
    rw [show (nI i) + 6 = nI (i + 6) from nI_add i 6]
    refine zx.adv 1 (f' := (23, [(0, .retAddr 0), (1, .ref 0), (2, .ref 69), (3, .ref 86), (4, .int (nI (i + 6)))], [])) (h' := zH v2 w2 t) rfl ?_
    exact hQ v2 w2 t (by omega) (by omega) hj
theorem zlc_56 {Q : Option Value × zk_H → Prop} {i : Nat} (hL : Ls ≤ 3072) (hi : i + 6 ≤ Ls) (h : zJ v w) (hc : xs i &&& 63 = nI 56) (hQ : ∀ v2 w2 t2, t2.length ≤ t.length + 1 → zk_sl t2 ≤ zk_sl t + 6 → zJ v2 w2 → zx zk_mt zk_ex Ls xs zm_311 (23, [(0, .retAddr 0), (1, .ref 0), (2, .ref 69), (3, .ref 86), (4, .int (nI (i + 6)))], []) (zH v2 w2 t2) Q) : zx zk_mt zk_ex Ls xs zm_311 (23, [(0, .retAddr 0), (1, .ref 0), (2, .ref 69), (3, .ref 86), (4, .int (nI i))], []) (zH v w t) Q := by
  refine zx.adv 5 (f' := (30, [(0, .retAddr 0), (1, .ref 0), (2, .ref 69), (3, .ref 86), (4, .int (nI i))], [.int ((Int32.ofNat Ls) - 6), .int (nI i)])) (h' := zH v w t) rfl ?_
  refine zx.br (f1 := (1933, [(0, .retAddr 0), (1, .ref 0), (2, .ref 69), (3, .ref 86), (4, .int (nI i))], [])) (f2 := (33, [(0, .retAddr 0), (1, .ref 0), (2, .ref 69), (3, .ref 86), (4, .int (nI i))], [])) rfl (fun c1 => absurd (of_decide_eq_true c1) (zl_cmp0 hL (by omega) hi)) (fun c1 => ?_)
  refine zx.adv 2 (f' := (36, [(0, .retAddr 0), (1, .ref 0), (2, .ref 69), (3, .ref 86), (4, .int (nI i))], [.int (nI i), .retAddr 0])) (h' := zH v w t) rfl ?_
  refine zx.ob (f' := (37, [(0, .retAddr 0), (1, .ref 0), (2, .ref 69), (3, .ref 86), (4, .int (nI i))], [.int (xs (nI i).toNatClampNeg)])) (h' := zH v w t) rfl (zk_inN (show i < Ls by omega) (by omega)) ?_
  rw [nI_clamp (show i < 2 ^ 31 by omega)]
  refine zx.adv 2 (f' := (40, [(0, .retAddr 0), (1, .ref 0), (2, .ref 69), (3, .ref 86), (4, .int (nI i))], [.int ((xs i) &&& 63)])) (h' := zH v w t) rfl ?_
  rw [show (xs i) &&& 63 = 56 from hc]
  refine zx.adv 2 (f' := (1930, [(0, .retAddr 0), (1, .ref 0), (2, .ref 69), (3, .ref 86), (4, .int ((nI i) + 6))], [])) (h' := zH v w t) rfl ?_
  rw [show (nI i) + 6 = nI (i + 6) from nI_add i 6]
  refine zx.adv 1 (f' := (23, [(0, .retAddr 0), (1, .ref 0), (2, .ref 69), (3, .ref 86), (4, .int (nI (i + 6)))], [])) (h' := zH v w t) rfl ?_
  exact hQ v w t (by omega) (by omega) h
theorem zlc_57 {Q : Option Value × zk_H → Prop} {i : Nat} (hL : Ls ≤ 3072) (hi : i + 6 ≤ Ls) (h : zJ v w) (hc : xs i &&& 63 = nI 57) (hQ : ∀ v2 w2 t2, t2.length ≤ t.length + 1 → zk_sl t2 ≤ zk_sl t + 6 → zJ v2 w2 → zx zk_mt zk_ex Ls xs zm_311 (23, [(0, .retAddr 0), (1, .ref 0), (2, .ref 69), (3, .ref 86), (4, .int (nI (i + 6)))], []) (zH v2 w2 t2) Q) : zx zk_mt zk_ex Ls xs zm_311 (23, [(0, .retAddr 0), (1, .ref 0), (2, .ref 69), (3, .ref 86), (4, .int (nI i))], []) (zH v w t) Q := by
  refine zx.adv 5 (f' := (30, [(0, .retAddr 0), (1, .ref 0), (2, .ref 69), (3, .ref 86), (4, .int (nI i))], [.int ((Int32.ofNat Ls) - 6), .int (nI i)])) (h' := zH v w t) rfl ?_
  refine zx.br (f1 := (1933, [(0, .retAddr 0), (1, .ref 0), (2, .ref 69), (3, .ref 86), (4, .int (nI i))], [])) (f2 := (33, [(0, .retAddr 0), (1, .ref 0), (2, .ref 69), (3, .ref 86), (4, .int (nI i))], [])) rfl (fun c1 => absurd (of_decide_eq_true c1) (zl_cmp0 hL (by omega) hi)) (fun c1 => ?_)
  refine zx.adv 2 (f' := (36, [(0, .retAddr 0), (1, .ref 0), (2, .ref 69), (3, .ref 86), (4, .int (nI i))], [.int (nI i), .retAddr 0])) (h' := zH v w t) rfl ?_
  refine zx.ob (f' := (37, [(0, .retAddr 0), (1, .ref 0), (2, .ref 69), (3, .ref 86), (4, .int (nI i))], [.int (xs (nI i).toNatClampNeg)])) (h' := zH v w t) rfl (zk_inN (show i < Ls by omega) (by omega)) ?_
  rw [nI_clamp (show i < 2 ^ 31 by omega)]
  refine zx.adv 2 (f' := (40, [(0, .retAddr 0), (1, .ref 0), (2, .ref 69), (3, .ref 86), (4, .int (nI i))], [.int ((xs i) &&& 63)])) (h' := zH v w t) rfl ?_
  rw [show (xs i) &&& 63 = 57 from hc]
  refine zx.adv 2 (f' := (1930, [(0, .retAddr 0), (1, .ref 0), (2, .ref 69), (3, .ref 86), (4, .int ((nI i) + 6))], [])) (h' := zH v w t) rfl ?_
  rw [show (nI i) + 6 = nI (i + 6) from nI_add i 6]
  refine zx.adv 1 (f' := (23, [(0, .retAddr 0), (1, .ref 0), (2, .ref 69), (3, .ref 86), (4, .int (nI (i + 6)))], [])) (h' := zH v w t) rfl ?_
  exact hQ v w t (by omega) (by omega) h
theorem zlc_58 {Q : Option Value × zk_H → Prop} {i : Nat} (hL : Ls ≤ 3072) (hi : i + 6 ≤ Ls) (h : zJ v w) (hc : xs i &&& 63 = nI 58) (hQ : ∀ v2 w2 t2, t2.length ≤ t.length + 1 → zk_sl t2 ≤ zk_sl t + 6 → zJ v2 w2 → zx zk_mt zk_ex Ls xs zm_311 (23, [(0, .retAddr 0), (1, .ref 0), (2, .ref 69), (3, .ref 86), (4, .int (nI (i + 6)))], []) (zH v2 w2 t2) Q) : zx zk_mt zk_ex Ls xs zm_311 (23, [(0, .retAddr 0), (1, .ref 0), (2, .ref 69), (3, .ref 86), (4, .int (nI i))], []) (zH v w t) Q := by
  refine zx.adv 5 (f' := (30, [(0, .retAddr 0), (1, .ref 0), (2, .ref 69), (3, .ref 86), (4, .int (nI i))], [.int ((Int32.ofNat Ls) - 6), .int (nI i)])) (h' := zH v w t) rfl ?_
  refine zx.br (f1 := (1933, [(0, .retAddr 0), (1, .ref 0), (2, .ref 69), (3, .ref 86), (4, .int (nI i))], [])) (f2 := (33, [(0, .retAddr 0), (1, .ref 0), (2, .ref 69), (3, .ref 86), (4, .int (nI i))], [])) rfl (fun c1 => absurd (of_decide_eq_true c1) (zl_cmp0 hL (by omega) hi)) (fun c1 => ?_)
  refine zx.adv 2 (f' := (36, [(0, .retAddr 0), (1, .ref 0), (2, .ref 69), (3, .ref 86), (4, .int (nI i))], [.int (nI i), .retAddr 0])) (h' := zH v w t) rfl ?_
  refine zx.ob (f' := (37, [(0, .retAddr 0), (1, .ref 0), (2, .ref 69), (3, .ref 86), (4, .int (nI i))], [.int (xs (nI i).toNatClampNeg)])) (h' := zH v w t) rfl (zk_inN (show i < Ls by omega) (by omega)) ?_
  rw [nI_clamp (show i < 2 ^ 31 by omega)]
  refine zx.adv 2 (f' := (40, [(0, .retAddr 0), (1, .ref 0), (2, .ref 69), (3, .ref 86), (4, .int (nI i))], [.int ((xs i) &&& 63)])) (h' := zH v w t) rfl ?_
  rw [show (xs i) &&& 63 = 58 from hc]
  refine zx.adv 2 (f' := (1930, [(0, .retAddr 0), (1, .ref 0), (2, .ref 69), (3, .ref 86), (4, .int ((nI i) + 6))], [])) (h' := zH v w t) rfl ?_
  rw [show (nI i) + 6 = nI (i + 6) from nI_add i 6]
  refine zx.adv 1 (f' := (23, [(0, .retAddr 0), (1, .ref 0), (2, .ref 69), (3, .ref 86), (4, .int (nI (i + 6)))], [])) (h' := zH v w t) rfl ?_
  exact hQ v w t (by omega) (by omega) h
theorem zlc_59 {Q : Option Value × zk_H → Prop} {i : Nat} (hL : Ls ≤ 3072) (hi : i + 6 ≤ Ls) (h : zJ v w) (hc : xs i &&& 63 = nI 59) (hQ : ∀ v2 w2 t2, t2.length ≤ t.length + 1 → zk_sl t2 ≤ zk_sl t + 6 → zJ v2 w2 → zx zk_mt zk_ex Ls xs zm_311 (23, [(0, .retAddr 0), (1, .ref 0), (2, .ref 69), (3, .ref 86), (4, .int (nI (i + 6)))], []) (zH v2 w2 t2) Q) : zx zk_mt zk_ex Ls xs zm_311 (23, [(0, .retAddr 0), (1, .ref 0), (2, .ref 69), (3, .ref 86), (4, .int (nI i))], []) (zH v w t) Q := by
  refine zx.adv 5 (f' := (30, [(0, .retAddr 0), (1, .ref 0), (2, .ref 69), (3, .ref 86), (4, .int (nI i))], [.int ((Int32.ofNat Ls) - 6), .int (nI i)])) (h' := zH v w t) rfl ?_
  refine zx.br (f1 := (1933, [(0, .retAddr 0), (1, .ref 0), (2, .ref 69), (3, .ref 86), (4, .int (nI i))], [])) (f2 := (33, [(0, .retAddr 0), (1, .ref 0), (2, .ref 69), (3, .ref 86), (4, .int (nI i))], [])) rfl (fun c1 => absurd (of_decide_eq_true c1) (zl_cmp0 hL (by omega) hi)) (fun c1 => ?_)
  refine zx.adv 2 (f' := (36, [(0, .retAddr 0), (1, .ref 0), (2, .ref 69), (3, .ref 86), (4, .int (nI i))], [.int (nI i), .retAddr 0])) (h' := zH v w t) rfl ?_
  refine zx.ob (f' := (37, [(0, .retAddr 0), (1, .ref 0), (2, .ref 69), (3, .ref 86), (4, .int (nI i))], [.int (xs (nI i).toNatClampNeg)])) (h' := zH v w t) rfl (zk_inN (show i < Ls by omega) (by omega)) ?_
  rw [nI_clamp (show i < 2 ^ 31 by omega)]
  refine zx.adv 2 (f' := (40, [(0, .retAddr 0), (1, .ref 0), (2, .ref 69), (3, .ref 86), (4, .int (nI i))], [.int ((xs i) &&& 63)])) (h' := zH v w t) rfl ?_
  rw [show (xs i) &&& 63 = 59 from hc]
  refine zx.adv 2 (f' := (1930, [(0, .retAddr 0), (1, .ref 0), (2, .ref 69), (3, .ref 86), (4, .int ((nI i) + 6))], [])) (h' := zH v w t) rfl ?_
  rw [show (nI i) + 6 = nI (i + 6) from nI_add i 6]
  refine zx.adv 1 (f' := (23, [(0, .retAddr 0), (1, .ref 0), (2, .ref 69), (3, .ref 86), (4, .int (nI (i + 6)))], [])) (h' := zH v w t) rfl ?_
  exact hQ v w t (by omega) (by omega) h
theorem zlc_60 {Q : Option Value × zk_H → Prop} {i : Nat} (hL : Ls ≤ 3072) (hi : i + 6 ≤ Ls) (h : zJ v w) (hc : xs i &&& 63 = nI 60) (hQ : ∀ v2 w2 t2, t2.length ≤ t.length + 1 → zk_sl t2 ≤ zk_sl t + 6 → zJ v2 w2 → zx zk_mt zk_ex Ls xs zm_311 (23, [(0, .retAddr 0), (1, .ref 0), (2, .ref 69), (3, .ref 86), (4, .int (nI (i + 6)))], []) (zH v2 w2 t2) Q) : zx zk_mt zk_ex Ls xs zm_311 (23, [(0, .retAddr 0), (1, .ref 0), (2, .ref 69), (3, .ref 86), (4, .int (nI i))], []) (zH v w t) Q := by
  refine zx.adv 5 (f' := (30, [(0, .retAddr 0), (1, .ref 0), (2, .ref 69), (3, .ref 86), (4, .int (nI i))], [.int ((Int32.ofNat Ls) - 6), .int (nI i)])) (h' := zH v w t) rfl ?_
  refine zx.br (f1 := (1933, [(0, .retAddr 0), (1, .ref 0), (2, .ref 69), (3, .ref 86), (4, .int (nI i))], [])) (f2 := (33, [(0, .retAddr 0), (1, .ref 0), (2, .ref 69), (3, .ref 86), (4, .int (nI i))], [])) rfl (fun c1 => absurd (of_decide_eq_true c1) (zl_cmp0 hL (by omega) hi)) (fun c1 => ?_)
  refine zx.adv 2 (f' := (36, [(0, .retAddr 0), (1, .ref 0), (2, .ref 69), (3, .ref 86), (4, .int (nI i))], [.int (nI i), .retAddr 0])) (h' := zH v w t) rfl ?_
  refine zx.ob (f' := (37, [(0, .retAddr 0), (1, .ref 0), (2, .ref 69), (3, .ref 86), (4, .int (nI i))], [.int (xs (nI i).toNatClampNeg)])) (h' := zH v w t) rfl (zk_inN (show i < Ls by omega) (by omega)) ?_
  rw [nI_clamp (show i < 2 ^ 31 by omega)]
  refine zx.adv 2 (f' := (40, [(0, .retAddr 0), (1, .ref 0), (2, .ref 69), (3, .ref 86), (4, .int (nI i))], [.int ((xs i) &&& 63)])) (h' := zH v w t) rfl ?_
  rw [show (xs i) &&& 63 = 60 from hc]
  refine zx.adv 2 (f' := (1930, [(0, .retAddr 0), (1, .ref 0), (2, .ref 69), (3, .ref 86), (4, .int ((nI i) + 6))], [])) (h' := zH v w t) rfl ?_
  rw [show (nI i) + 6 = nI (i + 6) from nI_add i 6]
  refine zx.adv 1 (f' := (23, [(0, .retAddr 0), (1, .ref 0), (2, .ref 69), (3, .ref 86), (4, .int (nI (i + 6)))], [])) (h' := zH v w t) rfl ?_
  exact hQ v w t (by omega) (by omega) h
theorem zlc_61 {Q : Option Value × zk_H → Prop} {i : Nat} (hL : Ls ≤ 3072) (hi : i + 6 ≤ Ls) (h : zJ v w) (hc : xs i &&& 63 = nI 61) (hQ : ∀ v2 w2 t2, t2.length ≤ t.length + 1 → zk_sl t2 ≤ zk_sl t + 6 → zJ v2 w2 → zx zk_mt zk_ex Ls xs zm_311 (23, [(0, .retAddr 0), (1, .ref 0), (2, .ref 69), (3, .ref 86), (4, .int (nI (i + 6)))], []) (zH v2 w2 t2) Q) : zx zk_mt zk_ex Ls xs zm_311 (23, [(0, .retAddr 0), (1, .ref 0), (2, .ref 69), (3, .ref 86), (4, .int (nI i))], []) (zH v w t) Q := by
  refine zx.adv 5 (f' := (30, [(0, .retAddr 0), (1, .ref 0), (2, .ref 69), (3, .ref 86), (4, .int (nI i))], [.int ((Int32.ofNat Ls) - 6), .int (nI i)])) (h' := zH v w t) rfl ?_
  refine zx.br (f1 := (1933, [(0, .retAddr 0), (1, .ref 0), (2, .ref 69), (3, .ref 86), (4, .int (nI i))], [])) (f2 := (33, [(0, .retAddr 0), (1, .ref 0), (2, .ref 69), (3, .ref 86), (4, .int (nI i))], [])) rfl (fun c1 => absurd (of_decide_eq_true c1) (zl_cmp0 hL (by omega) hi)) (fun c1 => ?_)
  refine zx.adv 2 (f' := (36, [(0, .retAddr 0), (1, .ref 0), (2, .ref 69), (3, .ref 86), (4, .int (nI i))], [.int (nI i), .retAddr 0])) (h' := zH v w t) rfl ?_
  refine zx.ob (f' := (37, [(0, .retAddr 0), (1, .ref 0), (2, .ref 69), (3, .ref 86), (4, .int (nI i))], [.int (xs (nI i).toNatClampNeg)])) (h' := zH v w t) rfl (zk_inN (show i < Ls by omega) (by omega)) ?_
  rw [nI_clamp (show i < 2 ^ 31 by omega)]
  refine zx.adv 2 (f' := (40, [(0, .retAddr 0), (1, .ref 0), (2, .ref 69), (3, .ref 86), (4, .int (nI i))], [.int ((xs i) &&& 63)])) (h' := zH v w t) rfl ?_
  rw [show (xs i) &&& 63 = 61 from hc]
  refine zx.adv 2 (f' := (1930, [(0, .retAddr 0), (1, .ref 0), (2, .ref 69), (3, .ref 86), (4, .int ((nI i) + 6))], [])) (h' := zH v w t) rfl ?_
  rw [show (nI i) + 6 = nI (i + 6) from nI_add i 6]
  refine zx.adv 1 (f' := (23, [(0, .retAddr 0), (1, .ref 0), (2, .ref 69), (3, .ref 86), (4, .int (nI (i + 6)))], [])) (h' := zH v w t) rfl ?_
  exact hQ v w t (by omega) (by omega) h
theorem zlc_62 {Q : Option Value × zk_H → Prop} {i : Nat} (hL : Ls ≤ 3072) (hi : i + 6 ≤ Ls) (h : zJ v w) (hc : xs i &&& 63 = nI 62) (hQ : ∀ v2 w2 t2, t2.length ≤ t.length + 1 → zk_sl t2 ≤ zk_sl t + 6 → zJ v2 w2 → zx zk_mt zk_ex Ls xs zm_311 (23, [(0, .retAddr 0), (1, .ref 0), (2, .ref 69), (3, .ref 86), (4, .int (nI (i + 6)))], []) (zH v2 w2 t2) Q) : zx zk_mt zk_ex Ls xs zm_311 (23, [(0, .retAddr 0), (1, .ref 0), (2, .ref 69), (3, .ref 86), (4, .int (nI i))], []) (zH v w t) Q := by
  refine zx.adv 5 (f' := (30, [(0, .retAddr 0), (1, .ref 0), (2, .ref 69), (3, .ref 86), (4, .int (nI i))], [.int ((Int32.ofNat Ls) - 6), .int (nI i)])) (h' := zH v w t) rfl ?_
  refine zx.br (f1 := (1933, [(0, .retAddr 0), (1, .ref 0), (2, .ref 69), (3, .ref 86), (4, .int (nI i))], [])) (f2 := (33, [(0, .retAddr 0), (1, .ref 0), (2, .ref 69), (3, .ref 86), (4, .int (nI i))], [])) rfl (fun c1 => absurd (of_decide_eq_true c1) (zl_cmp0 hL (by omega) hi)) (fun c1 => ?_)
  refine zx.adv 2 (f' := (36, [(0, .retAddr 0), (1, .ref 0), (2, .ref 69), (3, .ref 86), (4, .int (nI i))], [.int (nI i), .retAddr 0])) (h' := zH v w t) rfl ?_
  refine zx.ob (f' := (37, [(0, .retAddr 0), (1, .ref 0), (2, .ref 69), (3, .ref 86), (4, .int (nI i))], [.int (xs (nI i).toNatClampNeg)])) (h' := zH v w t) rfl (zk_inN (show i < Ls by omega) (by omega)) ?_
  rw [nI_clamp (show i < 2 ^ 31 by omega)]
  refine zx.adv 2 (f' := (40, [(0, .retAddr 0), (1, .ref 0), (2, .ref 69), (3, .ref 86), (4, .int (nI i))], [.int ((xs i) &&& 63)])) (h' := zH v w t) rfl ?_
  rw [show (xs i) &&& 63 = 62 from hc]
  refine zx.adv 2 (f' := (1930, [(0, .retAddr 0), (1, .ref 0), (2, .ref 69), (3, .ref 86), (4, .int ((nI i) + 6))], [])) (h' := zH v w t) rfl ?_
  rw [show (nI i) + 6 = nI (i + 6) from nI_add i 6]
  refine zx.adv 1 (f' := (23, [(0, .retAddr 0), (1, .ref 0), (2, .ref 69), (3, .ref 86), (4, .int (nI (i + 6)))], [])) (h' := zH v w t) rfl ?_
  exact hQ v w t (by omega) (by omega) h
theorem zlc_63 {Q : Option Value × zk_H → Prop} {i : Nat} (hL : Ls ≤ 3072) (hi : i + 6 ≤ Ls) (h : zJ v w) (hc : xs i &&& 63 = nI 63) (hQ : ∀ v2 w2 t2, t2.length ≤ t.length + 1 → zk_sl t2 ≤ zk_sl t + 6 → zJ v2 w2 → zx zk_mt zk_ex Ls xs zm_311 (23, [(0, .retAddr 0), (1, .ref 0), (2, .ref 69), (3, .ref 86), (4, .int (nI (i + 6)))], []) (zH v2 w2 t2) Q) : zx zk_mt zk_ex Ls xs zm_311 (23, [(0, .retAddr 0), (1, .ref 0), (2, .ref 69), (3, .ref 86), (4, .int (nI i))], []) (zH v w t) Q := by
  refine zx.adv 5 (f' := (30, [(0, .retAddr 0), (1, .ref 0), (2, .ref 69), (3, .ref 86), (4, .int (nI i))], [.int ((Int32.ofNat Ls) - 6), .int (nI i)])) (h' := zH v w t) rfl ?_
  refine zx.br (f1 := (1933, [(0, .retAddr 0), (1, .ref 0), (2, .ref 69), (3, .ref 86), (4, .int (nI i))], [])) (f2 := (33, [(0, .retAddr 0), (1, .ref 0), (2, .ref 69), (3, .ref 86), (4, .int (nI i))], [])) rfl (fun c1 => absurd (of_decide_eq_true c1) (zl_cmp0 hL (by omega) hi)) (fun c1 => ?_)
  refine zx.adv 2 (f' := (36, [(0, .retAddr 0), (1, .ref 0), (2, .ref 69), (3, .ref 86), (4, .int (nI i))], [.int (nI i), .retAddr 0])) (h' := zH v w t) rfl ?_
  refine zx.ob (f' := (37, [(0, .retAddr 0), (1, .ref 0), (2, .ref 69), (3, .ref 86), (4, .int (nI i))], [.int (xs (nI i).toNatClampNeg)])) (h' := zH v w t) rfl (zk_inN (show i < Ls by omega) (by omega)) ?_
  rw [nI_clamp (show i < 2 ^ 31 by omega)]
  refine zx.adv 2 (f' := (40, [(0, .retAddr 0), (1, .ref 0), (2, .ref 69), (3, .ref 86), (4, .int (nI i))], [.int ((xs i) &&& 63)])) (h' := zH v w t) rfl ?_
  rw [show (xs i) &&& 63 = 63 from hc]
  refine zx.adv 2 (f' := (1930, [(0, .retAddr 0), (1, .ref 0), (2, .ref 69), (3, .ref 86), (4, .int ((nI i) + 6))], [])) (h' := zH v w t) rfl ?_
  rw [show (nI i) + 6 = nI (i + 6) from nI_add i 6]
  refine zx.adv 1 (f' := (23, [(0, .retAddr 0), (1, .ref 0), (2, .ref 69), (3, .ref 86), (4, .int (nI (i + 6)))], [])) (h' := zH v w t) rfl ?_
  exact hQ v w t (by omega) (by omega) h
theorem zl_round {Q : Option Value × zk_H → Prop} {i : Nat} (hL : Ls ≤ 3072) (hi : i + 6 ≤ Ls) (h : zJ v w) (hQ : ∀ v2 w2 t2, t2.length ≤ t.length + 1 → zk_sl t2 ≤ zk_sl t + 6 → zJ v2 w2 → zx zk_mt zk_ex Ls xs zm_311 (23, [(0, .retAddr 0), (1, .ref 0), (2, .ref 69), (3, .ref 86), (4, .int (nI (i + 6)))], []) (zH v2 w2 t2) Q) : zx zk_mt zk_ex Ls xs zm_311 (23, [(0, .retAddr 0), (1, .ref 0), (2, .ref 69), (3, .ref 86), (4, .int (nI i))], []) (zH v w t) Q := by
  obtain ⟨j, hj, hc⟩ := pk_andE (xs i) (m := 63) 6 (by decide)
  have hj : j < 64 := hj
  rcases (show j = 0 ∨ j = 1 ∨ j = 2 ∨ j = 3 ∨ j = 4 ∨ j = 5 ∨ j = 6 ∨ j = 7 ∨ j = 8 ∨ j = 9 ∨ j = 10 ∨ j = 11 ∨ j = 12 ∨ j = 13 ∨ j = 14 ∨ j = 15 ∨ j = 16 ∨ j = 17 ∨ j = 18 ∨ j = 19 ∨ j = 20 ∨ j = 21 ∨ j = 22 ∨ j = 23 ∨ j = 24 ∨ j = 25 ∨ j = 26 ∨ j = 27 ∨ j = 28 ∨ j = 29 ∨ j = 30 ∨ j = 31 ∨ j = 32 ∨ j = 33 ∨ j = 34 ∨ j = 35 ∨ j = 36 ∨ j = 37 ∨ j = 38 ∨ j = 39 ∨ j = 40 ∨ j = 41 ∨ j = 42 ∨ j = 43 ∨ j = 44 ∨ j = 45 ∨ j = 46 ∨ j = 47 ∨ j = 48 ∨ j = 49 ∨ j = 50 ∨ j = 51 ∨ j = 52 ∨ j = 53 ∨ j = 54 ∨ j = 55 ∨ j = 56 ∨ j = 57 ∨ j = 58 ∨ j = 59 ∨ j = 60 ∨ j = 61 ∨ j = 62 ∨ j = 63 by omega) with rfl | rfl | rfl | rfl | rfl | rfl | rfl | rfl | rfl | rfl | rfl | rfl | rfl | rfl | rfl | rfl | rfl | rfl | rfl | rfl | rfl | rfl | rfl | rfl | rfl | rfl | rfl | rfl | rfl | rfl | rfl | rfl | rfl | rfl | rfl | rfl | rfl | rfl | rfl | rfl | rfl | rfl | rfl | rfl | rfl | rfl | rfl | rfl | rfl | rfl | rfl | rfl | rfl | rfl | rfl | rfl | rfl | rfl | rfl | rfl | rfl | rfl | rfl | rfl
  · exact zlc_0 hL hi h hc hQ
  · exact zlc_1 hL hi h hc hQ
  · exact zlc_2 hL hi h hc hQ
  · exact zlc_3 hL hi h hc hQ
  · exact zlc_4 hL hi h hc hQ
  · exact zlc_5 hL hi h hc hQ
  · exact zlc_6 hL hi h hc hQ
  · exact zlc_7 hL hi h hc hQ
  · exact zlc_8 hL hi h hc hQ
  · exact zlc_9 hL hi h hc hQ
  · exact zlc_10 hL hi h hc hQ
  · exact zlc_11 hL hi h hc hQ
  · exact zlc_12 hL hi h hc hQ
  · exact zlc_13 hL hi h hc hQ
  · exact zlc_14 hL hi h hc hQ
  · exact zlc_15 hL hi h hc hQ
  · exact zlc_16 hL hi h hc hQ
  · exact zlc_17 hL hi h hc hQ
  · exact zlc_18 hL hi h hc hQ
  · exact zlc_19 hL hi h hc hQ
  · exact zlc_20 hL hi h hc hQ
  · exact zlc_21 hL hi h hc hQ
  · exact zlc_22 hL hi h hc hQ
  · exact zlc_23 hL hi h hc hQ
  · exact zlc_24 hL hi h hc hQ
  · exact zlc_25 hL hi h hc hQ
  · exact zlc_26 hL hi h hc hQ
  · exact zlc_27 hL hi h hc hQ
  · exact zlc_28 hL hi h hc hQ
  · exact zlc_29 hL hi h hc hQ
  · exact zlc_30 hL hi h hc hQ
  · exact zlc_31 hL hi h hc hQ
  · exact zlc_32 hL hi h hc hQ
  · exact zlc_33 hL hi h hc hQ
  · exact zlc_34 hL hi h hc hQ
  · exact zlc_35 hL hi h hc hQ
  · exact zlc_36 hL hi h hc hQ
  · exact zlc_37 hL hi h hc hQ
  · exact zlc_38 hL hi h hc hQ
  · exact zlc_39 hL hi h hc hQ
  · exact zlc_40 hL hi h hc hQ
  · exact zlc_41 hL hi h hc hQ
  · exact zlc_42 hL hi h hc hQ
  · exact zlc_43 hL hi h hc hQ
  · exact zlc_44 hL hi h hc hQ
  · exact zlc_45 hL hi h hc hQ
  · exact zlc_46 hL hi h hc hQ
  · exact zlc_47 hL hi h hc hQ
  · exact zlc_48 hL hi h hc hQ
  · exact zlc_49 hL hi h hc hQ
  · exact zlc_50 hL hi h hc hQ
  · exact zlc_51 hL hi h hc hQ
  · exact zlc_52 hL hi h hc hQ
  · exact zlc_53 hL hi h hc hQ
  · exact zlc_54 hL hi h hc hQ
  · exact zlc_55 hL hi h hc hQ
  · exact zlc_56 hL hi h hc hQ
  · exact zlc_57 hL hi h hc hQ
  · exact zlc_58 hL hi h hc hQ
  · exact zlc_59 hL hi h hc hQ
  · exact zlc_60 hL hi h hc hQ
  · exact zlc_61 hL hi h hc hQ
  · exact zlc_62 hL hi h hc hQ
  · exact zlc_63 hL hi h hc hQ
theorem zl_all (hL : Ls ≤ 3072) : ∀ (n i : Nat) (v : Nat → Nat → Int32) (w : Nat → Nat → Int64) (t : zk_H), i + 6 * n ≤ Ls → Ls < i + 6 * n + 6 → zJ v w → zx zk_mt zk_ex Ls xs zm_311 (23, [(0, .retAddr 0), (1, .ref 0), (2, .ref 69), (3, .ref 86), (4, .int (nI i))], []) (zH v w t) (fun q => ∃ v' w' t', q = (some (.int 1), zH v' w' t') ∧ t'.length ≤ t.length + n ∧ zk_sl t' ≤ zk_sl t + 6 * n) := by
  intro n
  induction n with
  | zero =>
    intro i v w t h1 h2 h
    refine zx.adv 5 (f' := (30, [(0, .retAddr 0), (1, .ref 0), (2, .ref 69), (3, .ref 86), (4, .int (nI i))], [.int ((Int32.ofNat Ls) - 6), .int (nI i)])) (h' := zH v w t) rfl ?_
    refine zx.br (f1 := (1933, [(0, .retAddr 0), (1, .ref 0), (2, .ref 69), (3, .ref 86), (4, .int (nI i))], [])) (f2 := (33, [(0, .retAddr 0), (1, .ref 0), (2, .ref 69), (3, .ref 86), (4, .int (nI i))], [])) rfl (fun c1 => ?_) (fun c1 => absurd (zl_cmp1 hL (by omega) (by omega)) (of_decide_eq_false c1))
    refine zx.adv 1 (f' := (1934, [(0, .retAddr 0), (1, .ref 0), (2, .ref 69), (3, .ref 86), (4, .int (nI i))], [.int 1])) (h' := zH v w t) rfl ?_
    exact zx.rt rfl rfl ⟨v, w, t, rfl, by omega, by omega⟩
  | succ n ih =>
    intro i v w t h1 h2 h
    refine zl_round hL (by omega) h (fun v2 w2 t2 a b hj => ?_)
    obtain ⟨q, hq, v', w', t', e1, e2, e3⟩ := ih (i + 6) v2 w2 t2 (by omega) (by omega) hj
    exact ⟨q, hq, v', w', t', e1, by omega, by omega⟩
/-- the law, run by the small machine: true -/
theorem zl_law (hL : Ls ≤ 3072) : ∃ v' w' t', zk_T zk_mt zk_ex Ls xs zm_311 (0, [(0, .retAddr 0)], []) [] (some (.int 1), zH v' w' t') ∧ t'.length ≤ 512 ∧ zk_sl t' ≤ 3072 := by
  obtain ⟨q, hq, v', w', t', e1, e2, e3⟩ := zl_all (xs := xs) hL (Ls / 6) 0 zv0 zw0 [] (by omega) (by omega) zJ0
  subst e1
  refine ⟨v', w', t', zi_law hq, ?_, ?_⟩
  · have : ([] : zk_H).length = 0 := rfl
    omega
  · have : zk_sl ([] : zk_H) = 0 := rfl
    omega
end Z82
