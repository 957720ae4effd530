/-! contracts: goods to baskets -/
section Z35
variable {Ls : Nat} {xs : Nat → Int32} {v : Nat → Nat → Int32} {w : Nat → Nat → Int64} {t : zk_H}
theorem zk_shl1 : ∀ k : Nat, k ≤ 8 → (1 : Int32) <<< (nI k &&& 31) = nI (2 ^ k) := by decide +kernel
theorem zk_p2 {k n : Nat} (h : k ≤ n) : 2 ^ k ≤ 2 ^ n := Nat.pow_le_pow_right (by decide) h
theorem zk_dec {a b : Nat} (h : a = b) : nI a + (-1) = nI b - 1 := by rw [h, Int32.sub_eq_add_neg]
theorem zf_fst {σ τ : Type} {G : Nat → σ → σ} {g : Nat → τ → τ} {p : σ → τ} (h : ∀ j s, p (G j s) = g j (p s)) : ∀ (n i : Nat) (s : σ), p (zf G n i s) = zf g n i (p s)
  | 0, _, _ => rfl
  | n + 1, i, s => by
    unfold zf
    rw [zf_fst h n (i + 1) (G i s), h]
def zr_bc (x : Int32) : Int32 := ((((((((x - (((x.toUInt32 >>> ((1 : Int32).toUInt32 &&& Int32.toUInt32 31)).toInt32) &&& 1431655765)) &&& 858993459) + ((((x - (((x.toUInt32 >>> ((1 : Int32).toUInt32 &&& Int32.toUInt32 31)).toInt32) &&& 1431655765)).toUInt32 >>> ((2 : Int32).toUInt32 &&& Int32.toUInt32 31)).toInt32) &&& 858993459)) + (((((x - (((x.toUInt32 >>> ((1 : Int32).toUInt32 &&& Int32.toUInt32 31)).toInt32) &&& 1431655765)) &&& 858993459) + ((((x - (((x.toUInt32 >>> ((1 : Int32).toUInt32 &&& Int32.toUInt32 31)).toInt32) &&& 1431655765)).toUInt32 >>> ((2 : Int32).toUInt32 &&& Int32.toUInt32 31)).toInt32) &&& 858993459)).toUInt32 >>> ((4 : Int32).toUInt32 &&& Int32.toUInt32 31)).toInt32)) &&& 252645135) + (((((((x - (((x.toUInt32 >>> ((1 : Int32).toUInt32 &&& Int32.toUInt32 31)).toInt32) &&& 1431655765)) &&& 858993459) + ((((x - (((x.toUInt32 >>> ((1 : Int32).toUInt32 &&& Int32.toUInt32 31)).toInt32) &&& 1431655765)).toUInt32 >>> ((2 : Int32).toUInt32 &&& Int32.toUInt32 31)).toInt32) &&& 858993459)) + (((((x - (((x.toUInt32 >>> ((1 : Int32).toUInt32 &&& Int32.toUInt32 31)).toInt32) &&& 1431655765)) &&& 858993459) + ((((x - (((x.toUInt32 >>> ((1 : Int32).toUInt32 &&& Int32.toUInt32 31)).toInt32) &&& 1431655765)).toUInt32 >>> ((2 : Int32).toUInt32 &&& Int32.toUInt32 31)).toInt32) &&& 858993459)).toUInt32 >>> ((4 : Int32).toUInt32 &&& Int32.toUInt32 31)).toInt32)) &&& 252645135).toUInt32 >>> ((8 : Int32).toUInt32 &&& Int32.toUInt32 31)).toInt32)) + ((((((((x - (((x.toUInt32 >>> ((1 : Int32).toUInt32 &&& Int32.toUInt32 31)).toInt32) &&& 1431655765)) &&& 858993459) + ((((x - (((x.toUInt32 >>> ((1 : Int32).toUInt32 &&& Int32.toUInt32 31)).toInt32) &&& 1431655765)).toUInt32 >>> ((2 : Int32).toUInt32 &&& Int32.toUInt32 31)).toInt32) &&& 858993459)) + (((((x - (((x.toUInt32 >>> ((1 : Int32).toUInt32 &&& Int32.toUInt32 31)).toInt32) &&& 1431655765)) &&& 858993459) + ((((x - (((x.toUInt32 >>> ((1 : Int32).toUInt32 &&& Int32.toUInt32 31)).toInt32) &&& 1431655765)).toUInt32 >>> ((2 : Int32).toUInt32 &&& Int32.toUInt32 31)).toInt32) &&& 858993459)).toUInt32 >>> ((4 : Int32).toUInt32 &&& Int32.toUInt32 31)).toInt32)) &&& 252645135) + (((((((x - (((x.toUInt32 >>> ((1 : Int32).toUInt32 &&& Int32.toUInt32 31)).toInt32) &&& 1431655765)) &&& 858993459) + ((((x - (((x.toUInt32 >>> ((1 : Int32).toUInt32 &&& Int32.toUInt32 31)).toInt32) &&& 1431655765)).toUInt32 >>> ((2 : Int32).toUInt32 &&& Int32.toUInt32 31)).toInt32) &&& 858993459)) + (((((x - (((x.toUInt32 >>> ((1 : Int32).toUInt32 &&& Int32.toUInt32 31)).toInt32) &&& 1431655765)) &&& 858993459) + ((((x - (((x.toUInt32 >>> ((1 : Int32).toUInt32 &&& Int32.toUInt32 31)).toInt32) &&& 1431655765)).toUInt32 >>> ((2 : Int32).toUInt32 &&& Int32.toUInt32 31)).toInt32) &&& 858993459)).toUInt32 >>> ((4 : Int32).toUInt32 &&& Int32.toUInt32 31)).toInt32)) &&& 252645135).toUInt32 >>> ((8 : Int32).toUInt32 &&& Int32.toUInt32 31)).toInt32)).toUInt32 >>> ((16 : Int32).toUInt32 &&& Int32.toUInt32 31)).toInt32)) &&& 63)
/-- java/lang/Integer.bitCount -/
theorem zs_bc (x : Int32) : zk_Cr zk_mt zk_ex Ls xs 70 [.int x] (zH v w t) (some (.int (zr_bc x)), zH v w t) := by
  refine zk_Cr.of (K := zm_70) rfl rfl rfl ?_
  show zk_T zk_mt zk_ex Ls xs zm_70 (0, [(0, .int x)], []) (zH v w t) _
  refine zk_T.adv 41 (f' := (52, [(0, .int (((((((x - (((x.toUInt32 >>> ((1 : Int32).toUInt32 &&& Int32.toUInt32 31)).toInt32) &&& 1431655765)) &&& 858993459) + ((((x - (((x.toUInt32 >>> ((1 : Int32).toUInt32 &&& Int32.toUInt32 31)).toInt32) &&& 1431655765)).toUInt32 >>> ((2 : Int32).toUInt32 &&& Int32.toUInt32 31)).toInt32) &&& 858993459)) + (((((x - (((x.toUInt32 >>> ((1 : Int32).toUInt32 &&& Int32.toUInt32 31)).toInt32) &&& 1431655765)) &&& 858993459) + ((((x - (((x.toUInt32 >>> ((1 : Int32).toUInt32 &&& Int32.toUInt32 31)).toInt32) &&& 1431655765)).toUInt32 >>> ((2 : Int32).toUInt32 &&& Int32.toUInt32 31)).toInt32) &&& 858993459)).toUInt32 >>> ((4 : Int32).toUInt32 &&& Int32.toUInt32 31)).toInt32)) &&& 252645135) + (((((((x - (((x.toUInt32 >>> ((1 : Int32).toUInt32 &&& Int32.toUInt32 31)).toInt32) &&& 1431655765)) &&& 858993459) + ((((x - (((x.toUInt32 >>> ((1 : Int32).toUInt32 &&& Int32.toUInt32 31)).toInt32) &&& 1431655765)).toUInt32 >>> ((2 : Int32).toUInt32 &&& Int32.toUInt32 31)).toInt32) &&& 858993459)) + (((((x - (((x.toUInt32 >>> ((1 : Int32).toUInt32 &&& Int32.toUInt32 31)).toInt32) &&& 1431655765)) &&& 858993459) + ((((x - (((x.toUInt32 >>> ((1 : Int32).toUInt32 &&& Int32.toUInt32 31)).toInt32) &&& 1431655765)).toUInt32 >>> ((2 : Int32).toUInt32 &&& Int32.toUInt32 31)).toInt32) &&& 858993459)).toUInt32 >>> ((4 : Int32).toUInt32 &&& Int32.toUInt32 31)).toInt32)) &&& 252645135).toUInt32 >>> ((8 : Int32).toUInt32 &&& Int32.toUInt32 31)).toInt32)) + ((((((((x - (((x.toUInt32 >>> ((1 : Int32).toUInt32 &&& Int32.toUInt32 31)).toInt32) &&& 1431655765)) &&& 858993459) + ((((x - (((x.toUInt32 >>> ((1 : Int32).toUInt32 &&& Int32.toUInt32 31)).toInt32) &&& 1431655765)).toUInt32 >>> ((2 : Int32).toUInt32 &&& Int32.toUInt32 31)).toInt32) &&& 858993459)) + (((((x - (((x.toUInt32 >>> ((1 : Int32).toUInt32 &&& Int32.toUInt32 31)).toInt32) &&& 1431655765)) &&& 858993459) + ((((x - (((x.toUInt32 >>> ((1 : Int32).toUInt32 &&& Int32.toUInt32 31)).toInt32) &&& 1431655765)).toUInt32 >>> ((2 : Int32).toUInt32 &&& Int32.toUInt32 31)).toInt32) &&& 858993459)).toUInt32 >>> ((4 : Int32).toUInt32 &&& Int32.toUInt32 31)).toInt32)) &&& 252645135) + (((((((x - (((x.toUInt32 >>> ((1 : Int32).toUInt32 &&& Int32.toUInt32 31)).toInt32) &&& 1431655765)) &&& 858993459) + ((((x - (((x.toUInt32 >>> ((1 : Int32).toUInt32 &&& Int32.toUInt32 31)).toInt32) &&& 1431655765)).toUInt32 >>> ((2 : Int32).toUInt32 &&& Int32.toUInt32 31)).toInt32) &&& 858993459)) + (((((x - (((x.toUInt32 >>> ((1 : Int32).toUInt32 &&& Int32.toUInt32 31)).toInt32) &&& 1431655765)) &&& 858993459) + ((((x - (((x.toUInt32 >>> ((1 : Int32).toUInt32 &&& Int32.toUInt32 31)).toInt32) &&& 1431655765)).toUInt32 >>> ((2 : Int32).toUInt32 &&& Int32.toUInt32 31)).toInt32) &&& 858993459)).toUInt32 >>> ((4 : Int32).toUInt32 &&& Int32.toUInt32 31)).toInt32)) &&& 252645135).toUInt32 >>> ((8 : Int32).toUInt32 &&& Int32.toUInt32 31)).toInt32)).toUInt32 >>> ((16 : Int32).toUInt32 &&& Int32.toUInt32 31)).toInt32)))], [.int ((((((((x - (((x.toUInt32 >>> ((1 : Int32).toUInt32 &&& Int32.toUInt32 31)).toInt32) &&& 1431655765)) &&& 858993459) + ((((x - (((x.toUInt32 >>> ((1 : Int32).toUInt32 &&& Int32.toUInt32 31)).toInt32) &&& 1431655765)).toUInt32 >>> ((2 : Int32).toUInt32 &&& Int32.toUInt32 31)).toInt32) &&& 858993459)) + (((((x - (((x.toUInt32 >>> ((1 : Int32).toUInt32 &&& Int32.toUInt32 31)).toInt32) &&& 1431655765)) &&& 858993459) + ((((x - (((x.toUInt32 >>> ((1 : Int32).toUInt32 &&& Int32.toUInt32 31)).toInt32) &&& 1431655765)).toUInt32 >>> ((2 : Int32).toUInt32 &&& Int32.toUInt32 31)).toInt32) &&& 858993459)).toUInt32 >>> ((4 : Int32).toUInt32 &&& Int32.toUInt32 31)).toInt32)) &&& 252645135) + (((((((x - (((x.toUInt32 >>> ((1 : Int32).toUInt32 &&& Int32.toUInt32 31)).toInt32) &&& 1431655765)) &&& 858993459) + ((((x - (((x.toUInt32 >>> ((1 : Int32).toUInt32 &&& Int32.toUInt32 31)).toInt32) &&& 1431655765)).toUInt32 >>> ((2 : Int32).toUInt32 &&& Int32.toUInt32 31)).toInt32) &&& 858993459)) + (((((x - (((x.toUInt32 >>> ((1 : Int32).toUInt32 &&& Int32.toUInt32 31)).toInt32) &&& 1431655765)) &&& 858993459) + ((((x - (((x.toUInt32 >>> ((1 : Int32).toUInt32 &&& Int32.toUInt32 31)).toInt32) &&& 1431655765)).toUInt32 >>> ((2 : Int32).toUInt32 &&& Int32.toUInt32 31)).toInt32) &&& 858993459)).toUInt32 >>> ((4 : Int32).toUInt32 &&& Int32.toUInt32 31)).toInt32)) &&& 252645135).toUInt32 >>> ((8 : Int32).toUInt32 &&& Int32.toUInt32 31)).toInt32)) + ((((((((x - (((x.toUInt32 >>> ((1 : Int32).toUInt32 &&& Int32.toUInt32 31)).toInt32) &&& 1431655765)) &&& 858993459) + ((((x - (((x.toUInt32 >>> ((1 : Int32).toUInt32 &&& Int32.toUInt32 31)).toInt32) &&& 1431655765)).toUInt32 >>> ((2 : Int32).toUInt32 &&& Int32.toUInt32 31)).toInt32) &&& 858993459)) + (((((x - (((x.toUInt32 >>> ((1 : Int32).toUInt32 &&& Int32.toUInt32 31)).toInt32) &&& 1431655765)) &&& 858993459) + ((((x - (((x.toUInt32 >>> ((1 : Int32).toUInt32 &&& Int32.toUInt32 31)).toInt32) &&& 1431655765)).toUInt32 >>> ((2 : Int32).toUInt32 &&& Int32.toUInt32 31)).toInt32) &&& 858993459)).toUInt32 >>> ((4 : Int32).toUInt32 &&& Int32.toUInt32 31)).toInt32)) &&& 252645135) + (((((((x - (((x.toUInt32 >>> ((1 : Int32).toUInt32 &&& Int32.toUInt32 31)).toInt32) &&& 1431655765)) &&& 858993459) + ((((x - (((x.toUInt32 >>> ((1 : Int32).toUInt32 &&& Int32.toUInt32 31)).toInt32) &&& 1431655765)).toUInt32 >>> ((2 : Int32).toUInt32 &&& Int32.toUInt32 31)).toInt32) &&& 858993459)) + (((((x - (((x.toUInt32 >>> ((1 : Int32).toUInt32 &&& Int32.toUInt32 31)).toInt32) &&& 1431655765)) &&& 858993459) + ((((x - (((x.toUInt32 >>> ((1 : Int32).toUInt32 &&& Int32.toUInt32 31)).toInt32) &&& 1431655765)).toUInt32 >>> ((2 : Int32).toUInt32 &&& Int32.toUInt32 31)).toInt32) &&& 858993459)).toUInt32 >>> ((4 : Int32).toUInt32 &&& Int32.toUInt32 31)).toInt32)) &&& 252645135).toUInt32 >>> ((8 : Int32).toUInt32 &&& Int32.toUInt32 31)).toInt32)).toUInt32 >>> ((16 : Int32).toUInt32 &&& Int32.toUInt32 31)).toInt32)) &&& 63)])) (h' := zH v w t) rfl ?_
  exact zk_T.rt rfl rfl (by rfl)
def zr_couldLie (Gn : Nat) (li : Nat → Int32) (lo g m : Int32) : Int32 := if (zr_isLost lo g) = 0 then if (zr_goodIn Gn (li) m) < 0 then 1 else (if (zr_goodIn Gn (li) m) = g then 1 else (if (zr_isLost lo (zr_goodIn Gn (li) m)) = 0 then 0 else 1)) else 0
/-- BasketKeep.couldLie -/
theorem zs_couldLie (Gn : Nat) (hG : v 20 8 = nI Gn) (h4 : Gn ≤ 4) (g m : Int32) : zk_Cr zk_mt zk_ex Ls xs 74 [.ref 0, .int g, .int m] (zH v w t) (some (.int (zr_couldLie Gn (v 33) (v 32 1) g m)), zH v w t) := by
  refine zk_Cr.of (K := zm_74) rfl rfl rfl ?_
  show zk_T zk_mt zk_ex Ls xs zm_74 (0, [(0, .ref 0), (1, .int g), (2, .int m)], []) (zH v w t) _
  refine zk_T.adv 6 (f' := (12, [(0, .ref 0), (1, .int g), (2, .int m)], [.int (v 20 8), .int m, .ref 32])) (h' := zH v w t) rfl ?_
  rw [show (v 20 8) = nI Gn from hG]
  refine zk_T.cl (v := some (.int (zr_goodIn Gn (v 33) m))) (h' := zH v w t) rfl (zs_goodIn (v := v) Gn h4 m) ?_
  show zk_T zk_mt zk_ex Ls xs zm_74 (15, [(0, .ref 0), (1, .int g), (2, .int m)], [.int (zr_goodIn Gn (v 33) m)]) (zH v w t) _
  refine zk_T.adv 4 (f' := (21, [(0, .ref 0), (1, .int g), (2, .int m), (3, .int (zr_goodIn Gn (v 33) m))], [.int g, .ref 32])) (h' := zH v w t) rfl ?_
  refine zk_T.cl (v := some (.int (zr_isLost (v 32 1) g))) (h' := zH v w t) rfl (zs_isLost_now g) ?_
  show zk_T zk_mt zk_ex Ls xs zm_74 (24, [(0, .ref 0), (1, .int g), (2, .int m), (3, .int (zr_goodIn Gn (v 33) m))], [.int (zr_isLost (v 32 1) g)]) (zH v w t) _
  refine zk_T.br (f1 := (27, [(0, .ref 0), (1, .int g), (2, .int m), (3, .int (zr_goodIn Gn (v 33) m))], [])) (f2 := (51, [(0, .ref 0), (1, .int g), (2, .int m), (3, .int (zr_goodIn Gn (v 33) m))], [])) rfl (fun c1 => ?_) (fun c1 => ?_)
  · have c1 : (zr_isLost (v 32 1) g) = 0 := of_decide_eq_true c1
    refine zk_T.adv 1 (f' := (28, [(0, .ref 0), (1, .int g), (2, .int m), (3, .int (zr_goodIn Gn (v 33) m))], [.int (zr_goodIn Gn (v 33) m)])) (h' := zH v w t) rfl ?_
    refine zk_T.br (f1 := (47, [(0, .ref 0), (1, .int g), (2, .int m), (3, .int (zr_goodIn Gn (v 33) m))], [])) (f2 := (31, [(0, .ref 0), (1, .int g), (2, .int m), (3, .int (zr_goodIn Gn (v 33) m))], [])) rfl (fun c2 => ?_) (fun c2 => ?_)
    · have c2 : (zr_goodIn Gn (v 33) m) < 0 := of_decide_eq_true c2
      refine zk_T.adv 2 (f' := (52, [(0, .ref 0), (1, .int g), (2, .int m), (3, .int (zr_goodIn Gn (v 33) m))], [.int 1])) (h' := zH v w t) rfl ?_
      exact zk_T.rt rfl rfl (by simp only [zr_couldLie, if_pos c1, if_pos c2])
    · have c2 : ¬ ((zr_goodIn Gn (v 33) m) < 0) := of_decide_eq_false c2
      refine zk_T.adv 2 (f' := (33, [(0, .ref 0), (1, .int g), (2, .int m), (3, .int (zr_goodIn Gn (v 33) m))], [.int g, .int (zr_goodIn Gn (v 33) m)])) (h' := zH v w t) rfl ?_
      refine zk_T.br (f1 := (47, [(0, .ref 0), (1, .int g), (2, .int m), (3, .int (zr_goodIn Gn (v 33) m))], [])) (f2 := (36, [(0, .ref 0), (1, .int g), (2, .int m), (3, .int (zr_goodIn Gn (v 33) m))], [])) rfl (fun c3 => ?_) (fun c3 => ?_)
      · have c3 : (zr_goodIn Gn (v 33) m) = g := of_decide_eq_true c3
        refine zk_T.adv 2 (f' := (52, [(0, .ref 0), (1, .int g), (2, .int m), (3, .int (zr_goodIn Gn (v 33) m))], [.int 1])) (h' := zH v w t) rfl ?_
        exact zk_T.rt rfl rfl (by simp only [zr_couldLie, if_pos c1, if_neg c2, if_pos c3])
      · have c3 : ¬ ((zr_goodIn Gn (v 33) m) = g) := of_decide_eq_false c3
        refine zk_T.adv 3 (f' := (41, [(0, .ref 0), (1, .int g), (2, .int m), (3, .int (zr_goodIn Gn (v 33) m))], [.int (zr_goodIn Gn (v 33) m), .ref 32])) (h' := zH v w t) rfl ?_
        refine zk_T.cl (v := some (.int (zr_isLost (v 32 1) (zr_goodIn Gn (v 33) m)))) (h' := zH v w t) rfl (zs_isLost_now (zr_goodIn Gn (v 33) m)) ?_
        show zk_T zk_mt zk_ex Ls xs zm_74 (44, [(0, .ref 0), (1, .int g), (2, .int m), (3, .int (zr_goodIn Gn (v 33) m))], [.int (zr_isLost (v 32 1) (zr_goodIn Gn (v 33) m))]) (zH v w t) _
        refine zk_T.br (f1 := (51, [(0, .ref 0), (1, .int g), (2, .int m), (3, .int (zr_goodIn Gn (v 33) m))], [])) (f2 := (47, [(0, .ref 0), (1, .int g), (2, .int m), (3, .int (zr_goodIn Gn (v 33) m))], [])) rfl (fun c4 => ?_) (fun c4 => ?_)
        · have c4 : (zr_isLost (v 32 1) (zr_goodIn Gn (v 33) m)) = 0 := of_decide_eq_true c4
          refine zk_T.adv 1 (f' := (52, [(0, .ref 0), (1, .int g), (2, .int m), (3, .int (zr_goodIn Gn (v 33) m))], [.int 0])) (h' := zH v w t) rfl ?_
          exact zk_T.rt rfl rfl (by simp only [zr_couldLie, if_pos c1, if_neg c2, if_neg c3, if_pos c4])
        · have c4 : ¬ ((zr_isLost (v 32 1) (zr_goodIn Gn (v 33) m)) = 0) := of_decide_eq_false c4
          refine zk_T.adv 2 (f' := (52, [(0, .ref 0), (1, .int g), (2, .int m), (3, .int (zr_goodIn Gn (v 33) m))], [.int 1])) (h' := zH v w t) rfl ?_
          exact zk_T.rt rfl rfl (by simp only [zr_couldLie, if_pos c1, if_neg c2, if_neg c3, if_neg c4])
  · have c1 : ¬ ((zr_isLost (v 32 1) g) = 0) := of_decide_eq_false c1
    refine zk_T.adv 1 (f' := (52, [(0, .ref 0), (1, .int g), (2, .int m), (3, .int (zr_goodIn Gn (v 33) m))], [.int 0])) (h' := zH v w t) rfl ?_
    exact zk_T.rt rfl rfl (by simp only [zr_couldLie, if_neg c1])
/-- BasketKeep.worthIf -/
theorem zK_worthIf_t (x : Int32) (hx : v 0 2 = 0 ∨ x < 0 ∨ v 20 8 ≤ x) (y z : Int32) : zk_Cr zk_mt zk_ex Ls xs 252 [.ref 0, .int x, .int y, .int z] (zH v w t) (some (.int (-1)), zH (zb v 0 (upd (v 0) 10 1)) w t) := by
  refine zk_Cr.of (K := zm_252) rfl rfl rfl ?_
  show zk_T zk_mt zk_ex Ls xs zm_252 (0, [(0, .ref 0), (1, .int x), (2, .int y), (3, .int z)], []) (zH v w t) _
  refine zk_T.adv 2 (f' := (2, [(0, .ref 0), (1, .int x), (2, .int y), (3, .int z)], [.int x, .ref 0])) (h' := zH v w t) rfl ?_
  refine zk_T.cl (v := some (.int 1)) (h' := zH (zb v 0 (upd (v 0) 10 1)) w t) rfl (zs_noGood_t (v := v) x hx) ?_
  show zk_T zk_mt zk_ex Ls xs zm_252 (5, [(0, .ref 0), (1, .int x), (2, .int y), (3, .int z)], [.int 1]) (zH (zb v 0 (upd (v 0) 10 1)) w t) _
  refine zk_T.br (f1 := (8, [(0, .ref 0), (1, .int x), (2, .int y), (3, .int z)], [])) (f2 := (49, [(0, .ref 0), (1, .int x), (2, .int y), (3, .int z)], [])) rfl (fun c1 => absurd (of_decide_eq_true c1) (by decide)) (fun c1 => ?_)
  refine zk_T.adv 1 (f' := (50, [(0, .ref 0), (1, .int x), (2, .int y), (3, .int z)], [.int (-1)])) (h' := zH (zb v 0 (upd (v 0) 10 1)) w t) rfl ?_
  exact zk_T.rt rfl rfl (by rfl)
/-- BasketKeep.worthIf -/
theorem zK_worthIf_m (hst : v 0 2 = 1) (Gn : Nat) (hG : v 20 8 = nI Gn) (h4 : Gn ≤ 4) (a : Nat) (ha : a < Gn) (x : Int32) (hx : v 0 2 = 0 ∨ x < 0 ∨ v 20 4 ≤ x) (z : Int32) : zk_Cr zk_mt zk_ex Ls xs 252 [.ref 0, .int (nI a), .int x, .int z] (zH v w t) (some (.int (-1)), zH (zb v 0 (upd (v 0) 10 1)) w t) := by
  refine zk_Cr.of (K := zm_252) rfl rfl rfl ?_
  show zk_T zk_mt zk_ex Ls xs zm_252 (0, [(0, .ref 0), (1, .int (nI a)), (2, .int x), (3, .int z)], []) (zH v w t) _
  refine zk_T.adv 2 (f' := (2, [(0, .ref 0), (1, .int (nI a)), (2, .int x), (3, .int z)], [.int (nI a), .ref 0])) (h' := zH v w t) rfl ?_
  refine zk_T.cl (v := some (.int 0)) (h' := zH (zb v 0 (upd (v 0) 10 0)) w t) rfl (zs_noGood_f (v := v) hst Gn hG h4 a ha) ?_
  show zk_T zk_mt zk_ex Ls xs zm_252 (5, [(0, .ref 0), (1, .int (nI a)), (2, .int x), (3, .int z)], [.int 0]) (zH (zb v 0 (upd (v 0) 10 0)) w t) _
  refine zk_T.br (f1 := (8, [(0, .ref 0), (1, .int (nI a)), (2, .int x), (3, .int z)], [])) (f2 := (49, [(0, .ref 0), (1, .int (nI a)), (2, .int x), (3, .int z)], [])) rfl (fun c1 => ?_) (fun c1 => absurd (by decide) (of_decide_eq_false c1))
  refine zk_T.adv 2 (f' := (10, [(0, .ref 0), (1, .int (nI a)), (2, .int x), (3, .int z)], [.int x, .ref 0])) (h' := zH (zb v 0 (upd (v 0) 10 0)) w t) rfl ?_
  refine zk_T.cl (v := some (.int 1)) (h' := zH (zb v 0 (upd (v 0) 10 1)) w t) rfl (zs_noMaker_t (v := (zb v 0 (upd (v 0) 10 0))) x hx) ?_
  show zk_T zk_mt zk_ex Ls xs zm_252 (13, [(0, .ref 0), (1, .int (nI a)), (2, .int x), (3, .int z)], [.int 1]) (zH (zb v 0 (upd (v 0) 10 1)) w t) _
  refine zk_T.br (f1 := (16, [(0, .ref 0), (1, .int (nI a)), (2, .int x), (3, .int z)], [])) (f2 := (49, [(0, .ref 0), (1, .int (nI a)), (2, .int x), (3, .int z)], [])) rfl (fun c2 => absurd (of_decide_eq_true c2) (by decide)) (fun c2 => ?_)
  refine zk_T.adv 1 (f' := (50, [(0, .ref 0), (1, .int (nI a)), (2, .int x), (3, .int z)], [.int (-1)])) (h' := zH (zb v 0 (upd (v 0) 10 1)) w t) rfl ?_
  exact zk_T.rt rfl rfl (by rfl)
/-- BasketKeep.worthIf -/
theorem zK_worthIf_o (hst : v 0 2 = 1) (Gn : Nat) (hG : v 20 8 = nI Gn) (h4 : Gn ≤ 4) (a : Nat) (ha : a < Gn) (Mn : Nat) (hM : v 20 4 = nI Mn) (h5 : Mn ≤ 5) (e : Nat) (he : e < Mn) (z : Int32) (ho : z < 0 ∨ 60 < z) : zk_Cr zk_mt zk_ex Ls xs 252 [.ref 0, .int (nI a), .int (nI e), .int z] (zH v w t) (some (.int (-1)), zH (zb v 0 (upd (v 0) 10 2)) w t) := by
  refine zk_Cr.of (K := zm_252) rfl rfl rfl ?_
  show zk_T zk_mt zk_ex Ls xs zm_252 (0, [(0, .ref 0), (1, .int (nI a)), (2, .int (nI e)), (3, .int z)], []) (zH v w t) _
  refine zk_T.adv 2 (f' := (2, [(0, .ref 0), (1, .int (nI a)), (2, .int (nI e)), (3, .int z)], [.int (nI a), .ref 0])) (h' := zH v w t) rfl ?_
  refine zk_T.cl (v := some (.int 0)) (h' := zH (zb v 0 (upd (v 0) 10 0)) w t) rfl (zs_noGood_f (v := v) hst Gn hG h4 a ha) ?_
  show zk_T zk_mt zk_ex Ls xs zm_252 (5, [(0, .ref 0), (1, .int (nI a)), (2, .int (nI e)), (3, .int z)], [.int 0]) (zH (zb v 0 (upd (v 0) 10 0)) w t) _
  refine zk_T.br (f1 := (8, [(0, .ref 0), (1, .int (nI a)), (2, .int (nI e)), (3, .int z)], [])) (f2 := (49, [(0, .ref 0), (1, .int (nI a)), (2, .int (nI e)), (3, .int z)], [])) rfl (fun c1 => ?_) (fun c1 => absurd (by decide) (of_decide_eq_false c1))
  refine zk_T.adv 2 (f' := (10, [(0, .ref 0), (1, .int (nI a)), (2, .int (nI e)), (3, .int z)], [.int (nI e), .ref 0])) (h' := zH (zb v 0 (upd (v 0) 10 0)) w t) rfl ?_
  refine zk_T.cl (v := some (.int 0)) (h' := zH (zb v 0 (upd (v 0) 10 0)) w t) rfl (zs_noMaker_f (v := (zb v 0 (upd (v 0) 10 0))) hst Mn hM h5 e he) ?_
  show zk_T zk_mt zk_ex Ls xs zm_252 (13, [(0, .ref 0), (1, .int (nI a)), (2, .int (nI e)), (3, .int z)], [.int 0]) (zH (zb v 0 (upd (v 0) 10 0)) w t) _
  refine zk_T.br (f1 := (16, [(0, .ref 0), (1, .int (nI a)), (2, .int (nI e)), (3, .int z)], [])) (f2 := (49, [(0, .ref 0), (1, .int (nI a)), (2, .int (nI e)), (3, .int z)], [])) rfl (fun c2 => ?_) (fun c2 => absurd (by decide) (of_decide_eq_false c2))
  refine zk_T.adv 4 (f' := (21, [(0, .ref 0), (1, .int (nI a)), (2, .int (nI e)), (3, .int z)], [.int 60, .int 0, .int z, .ref 0])) (h' := zH (zb v 0 (upd (v 0) 10 0)) w t) rfl ?_
  refine zk_T.cl (v := some (.int 1)) (h' := zH (zb v 0 (upd (v 0) 10 2)) w t) rfl (zs_outside_t z 0 60 ho) ?_
  show zk_T zk_mt zk_ex Ls xs zm_252 (24, [(0, .ref 0), (1, .int (nI a)), (2, .int (nI e)), (3, .int z)], [.int 1]) (zH (zb v 0 (upd (v 0) 10 2)) w t) _
  refine zk_T.br (f1 := (27, [(0, .ref 0), (1, .int (nI a)), (2, .int (nI e)), (3, .int z)], [])) (f2 := (49, [(0, .ref 0), (1, .int (nI a)), (2, .int (nI e)), (3, .int z)], [])) rfl (fun c3 => absurd (of_decide_eq_true c3) (by decide)) (fun c3 => ?_)
  refine zk_T.adv 1 (f' := (50, [(0, .ref 0), (1, .int (nI a)), (2, .int (nI e)), (3, .int z)], [.int (-1)])) (h' := zH (zb v 0 (upd (v 0) 10 2)) w t) rfl ?_
  exact zk_T.rt rfl rfl (by rfl)
/-- BasketKeep.worthIf -/
theorem zK_worthIf_5 (hst : v 0 2 = 1) (Gn : Nat) (hG : v 20 8 = nI Gn) (h4 : Gn ≤ 4) (a : Nat) (ha : a < Gn) (Mn : Nat) (hM : v 20 4 = nI Mn) (h5 : Mn ≤ 5) (e : Nat) (he : e < Mn) (sp : Nat) (hsp : sp ≤ 60) (hcl : zr_couldLie Gn (v 33) (v 32 1) (nI a) (nI e) = 0) : zk_Cr zk_mt zk_ex Ls xs 252 [.ref 0, .int (nI a), .int (nI e), .int (nI sp)] (zH v w t) (some (.int (-1)), zH (zb v 0 (upd (v 0) 10 5)) w t) := by
  refine zk_Cr.of (K := zm_252) rfl rfl rfl ?_
  show zk_T zk_mt zk_ex Ls xs zm_252 (0, [(0, .ref 0), (1, .int (nI a)), (2, .int (nI e)), (3, .int (nI sp))], []) (zH v w t) _
  refine zk_T.adv 2 (f' := (2, [(0, .ref 0), (1, .int (nI a)), (2, .int (nI e)), (3, .int (nI sp))], [.int (nI a), .ref 0])) (h' := zH v w t) rfl ?_
  refine zk_T.cl (v := some (.int 0)) (h' := zH (zb v 0 (upd (v 0) 10 0)) w t) rfl (zs_noGood_f (v := v) hst Gn hG h4 a ha) ?_
  show zk_T zk_mt zk_ex Ls xs zm_252 (5, [(0, .ref 0), (1, .int (nI a)), (2, .int (nI e)), (3, .int (nI sp))], [.int 0]) (zH (zb v 0 (upd (v 0) 10 0)) w t) _
  refine zk_T.br (f1 := (8, [(0, .ref 0), (1, .int (nI a)), (2, .int (nI e)), (3, .int (nI sp))], [])) (f2 := (49, [(0, .ref 0), (1, .int (nI a)), (2, .int (nI e)), (3, .int (nI sp))], [])) rfl (fun c1 => ?_) (fun c1 => absurd (by decide) (of_decide_eq_false c1))
  refine zk_T.adv 2 (f' := (10, [(0, .ref 0), (1, .int (nI a)), (2, .int (nI e)), (3, .int (nI sp))], [.int (nI e), .ref 0])) (h' := zH (zb v 0 (upd (v 0) 10 0)) w t) rfl ?_
  refine zk_T.cl (v := some (.int 0)) (h' := zH (zb v 0 (upd (v 0) 10 0)) w t) rfl (zs_noMaker_f (v := (zb v 0 (upd (v 0) 10 0))) hst Mn hM h5 e he) ?_
  show zk_T zk_mt zk_ex Ls xs zm_252 (13, [(0, .ref 0), (1, .int (nI a)), (2, .int (nI e)), (3, .int (nI sp))], [.int 0]) (zH (zb v 0 (upd (v 0) 10 0)) w t) _
  refine zk_T.br (f1 := (16, [(0, .ref 0), (1, .int (nI a)), (2, .int (nI e)), (3, .int (nI sp))], [])) (f2 := (49, [(0, .ref 0), (1, .int (nI a)), (2, .int (nI e)), (3, .int (nI sp))], [])) rfl (fun c2 => ?_) (fun c2 => absurd (by decide) (of_decide_eq_false c2))
  refine zk_T.adv 4 (f' := (21, [(0, .ref 0), (1, .int (nI a)), (2, .int (nI e)), (3, .int (nI sp))], [.int 60, .int 0, .int (nI sp), .ref 0])) (h' := zH (zb v 0 (upd (v 0) 10 0)) w t) rfl ?_
  refine zk_T.cl (v := some (.int 0)) (h' := zH (zb v 0 (upd (v 0) 10 0)) w t) rfl (zs_outside_f (nI sp) 0 60 (nI_pos (by omega)) (show nI sp ≤ nI 60 from nI_le (by omega) (by decide))) ?_
  show zk_T zk_mt zk_ex Ls xs zm_252 (24, [(0, .ref 0), (1, .int (nI a)), (2, .int (nI e)), (3, .int (nI sp))], [.int 0]) (zH (zb v 0 (upd (v 0) 10 0)) w t) _
  refine zk_T.br (f1 := (27, [(0, .ref 0), (1, .int (nI a)), (2, .int (nI e)), (3, .int (nI sp))], [])) (f2 := (49, [(0, .ref 0), (1, .int (nI a)), (2, .int (nI e)), (3, .int (nI sp))], [])) rfl (fun c3 => ?_) (fun c3 => absurd (by decide) (of_decide_eq_false c3))
  refine zk_T.adv 4 (f' := (31, [(0, .ref 0), (1, .int (nI a)), (2, .int (nI e)), (3, .int (nI sp))], [.int (nI e), .int (nI a), .ref 0, .ref 0])) (h' := zH (zb v 0 (upd (v 0) 10 0)) w t) rfl ?_
  refine zk_T.cl (v := some (.int 0)) (h' := zH (zb v 0 (upd (v 0) 10 0)) w t) rfl (by have ee := zs_couldLie (v := (zb v 0 (upd (v 0) 10 0))) (w := w) (t := t) (Ls := Ls) (xs := xs) Gn hG h4 (nI a) (nI e); rw [show zr_couldLie Gn ((zb v 0 (upd (v 0) 10 0)) 33) ((zb v 0 (upd (v 0) 10 0)) 32 1) (nI a) (nI e) = 0 from hcl] at ee; exact ee) ?_
  show zk_T zk_mt zk_ex Ls xs zm_252 (34, [(0, .ref 0), (1, .int (nI a)), (2, .int (nI e)), (3, .int (nI sp))], [.int 0, .ref 0]) (zH (zb v 0 (upd (v 0) 10 0)) w t) _
  refine zk_T.br (f1 := (37, [(0, .ref 0), (1, .int (nI a)), (2, .int (nI e)), (3, .int (nI sp))], [.ref 0])) (f2 := (41, [(0, .ref 0), (1, .int (nI a)), (2, .int (nI e)), (3, .int (nI sp))], [.ref 0])) rfl (fun c4 => ?_) (fun c4 => absurd (by decide) (of_decide_eq_false c4))
  refine zk_T.adv 3 (f' := (43, [(0, .ref 0), (1, .int (nI a)), (2, .int (nI e)), (3, .int (nI sp))], [.int 5, .int 1, .ref 0])) (h' := zH (zb v 0 (upd (v 0) 10 0)) w t) rfl ?_
  refine zk_T.cl (v := some (.int 1)) (h' := zH (zb v 0 (upd (v 0) 10 5)) w t) rfl (zs_ref1 5) ?_
  show zk_T zk_mt zk_ex Ls xs zm_252 (46, [(0, .ref 0), (1, .int (nI a)), (2, .int (nI e)), (3, .int (nI sp))], [.int 1]) (zH (zb v 0 (upd (v 0) 10 5)) w t) _
  refine zk_T.br (f1 := (51, [(0, .ref 0), (1, .int (nI a)), (2, .int (nI e)), (3, .int (nI sp))], [])) (f2 := (49, [(0, .ref 0), (1, .int (nI a)), (2, .int (nI e)), (3, .int (nI sp))], [])) rfl (fun c5 => absurd (of_decide_eq_true c5) (by decide)) (fun c5 => ?_)
  refine zk_T.adv 1 (f' := (50, [(0, .ref 0), (1, .int (nI a)), (2, .int (nI e)), (3, .int (nI sp))], [.int (-1)])) (h' := zH (zb v 0 (upd (v 0) 10 5)) w t) rfl ?_
  exact zk_T.rt rfl rfl (by rfl)
/-- BasketKeep.worthIf -/
theorem zK_worthIf_f (hst : v 0 2 = 1) (D : Nat) (hD : v 20 1 = nI D) (h8 : D ≤ 8) (Gn : Nat) (hG : v 20 8 = nI Gn) (h4 : Gn ≤ 4) (a : Nat) (ha : a < Gn) (Mn : Nat) (hM : v 20 4 = nI Mn) (h5 : Mn ≤ 5) (e : Nat) (he : e < Mn) (hkd : ∀ e, e < 5 → v 23 e = 0 ∨ v 23 e = 1 ∨ v 23 e = 2) (sp : Nat) (hsp : sp ≤ 60) (hcl : zr_couldLie Gn (v 33) (v 32 1) (nI a) (nI e) = 1) (hli : ∀ b, b < Gn → (upd (va_cpy (v 33) (v 37) 0 0 4) a (nI e)) b < 0 ∨ ∃ q, q < 5 ∧ (upd (va_cpy (v 33) (v 37) 0 0 4) a (nI e)) b = nI q) : zk_Cr zk_mt zk_ex Ls xs 252 [.ref 0, .int (nI a), .int (nI e), .int (nI sp)] (zH v w t) (some (.int ((zvR_tried (zb (zb (zb (zb (zb v 0 (upd (v 0) 10 0)) 36 (upd (upd (v 36) 0 (v 32 0)) 1 (v 32 1))) 37 (upd (va_cpy (v 33) (v 37) 0 0 4) a (nI e))) 38 (va_cpy (v 34) (v 38) 0 0 5)) 39 (va_cpy (v 35) (v 39) 0 0 5)) D Mn Gn sp) 43 2)), zH (zvR_tried (zb (zb (zb (zb (zb v 0 (upd (v 0) 10 0)) 36 (upd (upd (v 36) 0 (v 32 0)) 1 (v 32 1))) 37 (upd (va_cpy (v 33) (v 37) 0 0 4) a (nI e))) 38 (va_cpy (v 34) (v 38) 0 0 5)) 39 (va_cpy (v 35) (v 39) 0 0 5)) D Mn Gn sp) w t) := by
  refine zk_Cr.of (K := zm_252) rfl rfl rfl ?_
  show zk_T zk_mt zk_ex Ls xs zm_252 (0, [(0, .ref 0), (1, .int (nI a)), (2, .int (nI e)), (3, .int (nI sp))], []) (zH v w t) _
  refine zk_T.adv 2 (f' := (2, [(0, .ref 0), (1, .int (nI a)), (2, .int (nI e)), (3, .int (nI sp))], [.int (nI a), .ref 0])) (h' := zH v w t) rfl ?_
  refine zk_T.cl (v := some (.int 0)) (h' := zH (zb v 0 (upd (v 0) 10 0)) w t) rfl (zs_noGood_f (v := v) hst Gn hG h4 a ha) ?_
  show zk_T zk_mt zk_ex Ls xs zm_252 (5, [(0, .ref 0), (1, .int (nI a)), (2, .int (nI e)), (3, .int (nI sp))], [.int 0]) (zH (zb v 0 (upd (v 0) 10 0)) w t) _
  refine zk_T.br (f1 := (8, [(0, .ref 0), (1, .int (nI a)), (2, .int (nI e)), (3, .int (nI sp))], [])) (f2 := (49, [(0, .ref 0), (1, .int (nI a)), (2, .int (nI e)), (3, .int (nI sp))], [])) rfl (fun c1 => ?_) (fun c1 => absurd (by decide) (of_decide_eq_false c1))
  refine zk_T.adv 2 (f' := (10, [(0, .ref 0), (1, .int (nI a)), (2, .int (nI e)), (3, .int (nI sp))], [.int (nI e), .ref 0])) (h' := zH (zb v 0 (upd (v 0) 10 0)) w t) rfl ?_
  refine zk_T.cl (v := some (.int 0)) (h' := zH (zb v 0 (upd (v 0) 10 0)) w t) rfl (zs_noMaker_f (v := (zb v 0 (upd (v 0) 10 0))) hst Mn hM h5 e he) ?_
  show zk_T zk_mt zk_ex Ls xs zm_252 (13, [(0, .ref 0), (1, .int (nI a)), (2, .int (nI e)), (3, .int (nI sp))], [.int 0]) (zH (zb v 0 (upd (v 0) 10 0)) w t) _
  refine zk_T.br (f1 := (16, [(0, .ref 0), (1, .int (nI a)), (2, .int (nI e)), (3, .int (nI sp))], [])) (f2 := (49, [(0, .ref 0), (1, .int (nI a)), (2, .int (nI e)), (3, .int (nI sp))], [])) rfl (fun c2 => ?_) (fun c2 => absurd (by decide) (of_decide_eq_false c2))
  refine zk_T.adv 4 (f' := (21, [(0, .ref 0), (1, .int (nI a)), (2, .int (nI e)), (3, .int (nI sp))], [.int 60, .int 0, .int (nI sp), .ref 0])) (h' := zH (zb v 0 (upd (v 0) 10 0)) w t) rfl ?_
  refine zk_T.cl (v := some (.int 0)) (h' := zH (zb v 0 (upd (v 0) 10 0)) w t) rfl (zs_outside_f (nI sp) 0 60 (nI_pos (by omega)) (show nI sp ≤ nI 60 from nI_le (by omega) (by decide))) ?_
  show zk_T zk_mt zk_ex Ls xs zm_252 (24, [(0, .ref 0), (1, .int (nI a)), (2, .int (nI e)), (3, .int (nI sp))], [.int 0]) (zH (zb v 0 (upd (v 0) 10 0)) w t) _
  refine zk_T.br (f1 := (27, [(0, .ref 0), (1, .int (nI a)), (2, .int (nI e)), (3, .int (nI sp))], [])) (f2 := (49, [(0, .ref 0), (1, .int (nI a)), (2, .int (nI e)), (3, .int (nI sp))], [])) rfl (fun c3 => ?_) (fun c3 => absurd (by decide) (of_decide_eq_false c3))
  refine zk_T.adv 4 (f' := (31, [(0, .ref 0), (1, .int (nI a)), (2, .int (nI e)), (3, .int (nI sp))], [.int (nI e), .int (nI a), .ref 0, .ref 0])) (h' := zH (zb v 0 (upd (v 0) 10 0)) w t) rfl ?_
  refine zk_T.cl (v := some (.int 1)) (h' := zH (zb v 0 (upd (v 0) 10 0)) w t) rfl (by have ee := zs_couldLie (v := (zb v 0 (upd (v 0) 10 0))) (w := w) (t := t) (Ls := Ls) (xs := xs) Gn hG h4 (nI a) (nI e); rw [show zr_couldLie Gn ((zb v 0 (upd (v 0) 10 0)) 33) ((zb v 0 (upd (v 0) 10 0)) 32 1) (nI a) (nI e) = 1 from hcl] at ee; exact ee) ?_
  show zk_T zk_mt zk_ex Ls xs zm_252 (34, [(0, .ref 0), (1, .int (nI a)), (2, .int (nI e)), (3, .int (nI sp))], [.int 1, .ref 0]) (zH (zb v 0 (upd (v 0) 10 0)) w t) _
  refine zk_T.br (f1 := (37, [(0, .ref 0), (1, .int (nI a)), (2, .int (nI e)), (3, .int (nI sp))], [.ref 0])) (f2 := (41, [(0, .ref 0), (1, .int (nI a)), (2, .int (nI e)), (3, .int (nI sp))], [.ref 0])) rfl (fun c4 => absurd (of_decide_eq_true c4) (by decide)) (fun c4 => ?_)
  refine zk_T.adv 2 (f' := (43, [(0, .ref 0), (1, .int (nI a)), (2, .int (nI e)), (3, .int (nI sp))], [.int 5, .int 0, .ref 0])) (h' := zH (zb v 0 (upd (v 0) 10 0)) w t) rfl ?_
  refine zk_T.cl (v := some (.int 0)) (h' := zH (zb v 0 (upd (v 0) 10 0)) w t) rfl (zs_ref0 5) ?_
  show zk_T zk_mt zk_ex Ls xs zm_252 (46, [(0, .ref 0), (1, .int (nI a)), (2, .int (nI e)), (3, .int (nI sp))], [.int 0]) (zH (zb v 0 (upd (v 0) 10 0)) w t) _
  refine zk_T.br (f1 := (51, [(0, .ref 0), (1, .int (nI a)), (2, .int (nI e)), (3, .int (nI sp))], [])) (f2 := (49, [(0, .ref 0), (1, .int (nI a)), (2, .int (nI e)), (3, .int (nI sp))], [])) rfl (fun c5 => ?_) (fun c5 => absurd (by decide) (of_decide_eq_false c5))
  refine zk_T.adv 4 (f' := (59, [(0, .ref 0), (1, .int (nI a)), (2, .int (nI e)), (3, .int (nI sp))], [.ref 32, .ref 36])) (h' := zH (zb v 0 (upd (v 0) 10 0)) w t) rfl ?_
  refine zk_T.cl (v := none) (h' := zH (zb (zb (zb (zb (zb v 0 (upd (v 0) 10 0)) 36 (upd (upd (v 36) 0 (v 32 0)) 1 (v 32 1))) 37 (va_cpy (v 33) (v 37) 0 0 4)) 38 (va_cpy (v 34) (v 38) 0 0 5)) 39 (va_cpy (v 35) (v 39) 0 0 5)) w t) rfl (zs_copyTried (v := (zb v 0 (upd (v 0) 10 0)))) ?_
  show zk_T zk_mt zk_ex Ls xs zm_252 (62, [(0, .ref 0), (1, .int (nI a)), (2, .int (nI e)), (3, .int (nI sp))], []) (zH (zb (zb (zb (zb (zb v 0 (upd (v 0) 10 0)) 36 (upd (upd (v 36) 0 (v 32 0)) 1 (v 32 1))) 37 (va_cpy (v 33) (v 37) 0 0 4)) 38 (va_cpy (v 34) (v 38) 0 0 5)) 39 (va_cpy (v 35) (v 39) 0 0 5)) w t) _
  refine zk_T.adv 5 (f' := (71, [(0, .ref 0), (1, .int (nI a)), (2, .int (nI e)), (3, .int (nI sp))], [.int (nI e), .int (nI a), .ref 37])) (h' := zH (zb (zb (zb (zb (zb v 0 (upd (v 0) 10 0)) 36 (upd (upd (v 36) 0 (v 32 0)) 1 (v 32 1))) 37 (va_cpy (v 33) (v 37) 0 0 4)) 38 (va_cpy (v 34) (v 38) 0 0 5)) 39 (va_cpy (v 35) (v 39) 0 0 5)) w t) rfl ?_
  refine zk_T.ob (f' := (72, [(0, .ref 0), (1, .int (nI a)), (2, .int (nI e)), (3, .int (nI sp))], [])) (h' := zH (zb (zb (zb (zb (zb v 0 (upd (v 0) 10 0)) 36 (upd (upd (v 36) 0 (v 32 0)) 1 (v 32 1))) 37 (upd (va_cpy (v 33) (v 37) 0 0 4) (nI a).toNatClampNeg (nI e))) 38 (va_cpy (v 34) (v 38) 0 0 5)) 39 (va_cpy (v 35) (v 39) 0 0 5)) w t) rfl (by first | exact zk_inN (by omega) (by decide) | decide) ?_
  rw [nI_clamp (show a < 2 ^ 31 by omega)]
  refine zk_T.adv 9 (f' := (89, [(0, .ref 0), (1, .int (nI a)), (2, .int (nI e)), (3, .int (nI sp))], [.ref 68, .int (nI sp), .ref 36, .ref 20, .ref 43])) (h' := zH (zb (zb (zb (zb (zb v 0 (upd (v 0) 10 0)) 36 (upd (upd (v 36) 0 (v 32 0)) 1 (v 32 1))) 37 (upd (va_cpy (v 33) (v 37) 0 0 4) a (nI e))) 38 (va_cpy (v 34) (v 38) 0 0 5)) 39 (va_cpy (v 35) (v 39) 0 0 5)) w t) rfl ?_
  refine zk_T.cl (v := none) (h' := zH (zvR_tried (zb (zb (zb (zb (zb v 0 (upd (v 0) 10 0)) 36 (upd (upd (v 36) 0 (v 32 0)) 1 (v 32 1))) 37 (upd (va_cpy (v 33) (v 37) 0 0 4) a (nI e))) 38 (va_cpy (v 34) (v 38) 0 0 5)) 39 (va_cpy (v 35) (v 39) 0 0 5)) D Mn Gn sp) w t) rfl (zs_rsv_tried (v := (zb (zb (zb (zb (zb v 0 (upd (v 0) 10 0)) 36 (upd (upd (v 36) 0 (v 32 0)) 1 (v 32 1))) 37 (upd (va_cpy (v 33) (v 37) 0 0 4) a (nI e))) 38 (va_cpy (v 34) (v 38) 0 0 5)) 39 (va_cpy (v 35) (v 39) 0 0 5))) D hD h8 Mn hM h5 Gn hG h4 hli hkd sp (by omega)) ?_
  show zk_T zk_mt zk_ex Ls xs zm_252 (92, [(0, .ref 0), (1, .int (nI a)), (2, .int (nI e)), (3, .int (nI sp))], []) (zH (zvR_tried (zb (zb (zb (zb (zb v 0 (upd (v 0) 10 0)) 36 (upd (upd (v 36) 0 (v 32 0)) 1 (v 32 1))) 37 (upd (va_cpy (v 33) (v 37) 0 0 4) a (nI e))) 38 (va_cpy (v 34) (v 38) 0 0 5)) 39 (va_cpy (v 35) (v 39) 0 0 5)) D Mn Gn sp) w t) _
  refine zk_T.adv 3 (f' := (99, [(0, .ref 0), (1, .int (nI a)), (2, .int (nI e)), (3, .int (nI sp))], [.int ((zvR_tried (zb (zb (zb (zb (zb v 0 (upd (v 0) 10 0)) 36 (upd (upd (v 36) 0 (v 32 0)) 1 (v 32 1))) 37 (upd (va_cpy (v 33) (v 37) 0 0 4) a (nI e))) 38 (va_cpy (v 34) (v 38) 0 0 5)) 39 (va_cpy (v 35) (v 39) 0 0 5)) D Mn Gn sp) 43 2)])) (h' := zH (zvR_tried (zb (zb (zb (zb (zb v 0 (upd (v 0) 10 0)) 36 (upd (upd (v 36) 0 (v 32 0)) 1 (v 32 1))) 37 (upd (va_cpy (v 33) (v 37) 0 0 4) a (nI e))) 38 (va_cpy (v 34) (v 38) 0 0 5)) 39 (va_cpy (v 35) (v 39) 0 0 5)) D Mn Gn sp) w t) rfl ?_
  exact zk_T.rt rfl rfl (by rfl)
/-- BasketKeep.vain -/
theorem zK_vain_t (x : Int32) (hx : v 0 2 = 0 ∨ x < 0 ∨ v 20 4 ≤ x) : zk_Cr zk_mt zk_ex Ls xs 151 [.ref 0, .int x] (zH v w t) (some (.int (-1)), zH (zb v 0 (upd (v 0) 10 1)) w t) := by
  refine zk_Cr.of (K := zm_151) rfl rfl rfl ?_
  show zk_T zk_mt zk_ex Ls xs zm_151 (0, [(0, .ref 0), (1, .int x)], []) (zH v w t) _
  refine zk_T.adv 2 (f' := (2, [(0, .ref 0), (1, .int x)], [.int x, .ref 0])) (h' := zH v w t) rfl ?_
  refine zk_T.cl (v := some (.int 1)) (h' := zH (zb v 0 (upd (v 0) 10 1)) w t) rfl (zs_noMaker_t (v := v) x hx) ?_
  show zk_T zk_mt zk_ex Ls xs zm_151 (5, [(0, .ref 0), (1, .int x)], [.int 1]) (zH (zb v 0 (upd (v 0) 10 1)) w t) _
  refine zk_T.br (f1 := (10, [(0, .ref 0), (1, .int x)], [])) (f2 := (8, [(0, .ref 0), (1, .int x)], [])) rfl (fun c1 => absurd (of_decide_eq_true c1) (by decide)) (fun c1 => ?_)
  refine zk_T.adv 1 (f' := (9, [(0, .ref 0), (1, .int x)], [.int (-1)])) (h' := zH (zb v 0 (upd (v 0) 10 1)) w t) rfl ?_
  exact zk_T.rt rfl rfl (by rfl)
/-- BasketKeep.vain -/
theorem zK_vain_0 (hst : v 0 2 = 1) (Mn : Nat) (hM : v 20 4 = nI Mn) (h5 : Mn ≤ 5) (e : Nat) (he : e < Mn) (Gn : Nat) (hG : v 20 8 = nI Gn) (h4 : Gn ≤ 4) (hgi : zr_goodIn Gn (v 33) (nI e) < 0) : zk_Cr zk_mt zk_ex Ls xs 151 [.ref 0, .int (nI e)] (zH v w t) (some (.int (v 34 e)), zH (zb v 0 (upd (v 0) 10 0)) w t) := by
  refine zk_Cr.of (K := zm_151) rfl rfl rfl ?_
  show zk_T zk_mt zk_ex Ls xs zm_151 (0, [(0, .ref 0), (1, .int (nI e))], []) (zH v w t) _
  refine zk_T.adv 2 (f' := (2, [(0, .ref 0), (1, .int (nI e))], [.int (nI e), .ref 0])) (h' := zH v w t) rfl ?_
  refine zk_T.cl (v := some (.int 0)) (h' := zH (zb v 0 (upd (v 0) 10 0)) w t) rfl (zs_noMaker_f (v := v) hst Mn hM h5 e he) ?_
  show zk_T zk_mt zk_ex Ls xs zm_151 (5, [(0, .ref 0), (1, .int (nI e))], [.int 0]) (zH (zb v 0 (upd (v 0) 10 0)) w t) _
  refine zk_T.br (f1 := (10, [(0, .ref 0), (1, .int (nI e))], [])) (f2 := (8, [(0, .ref 0), (1, .int (nI e))], [])) rfl (fun c1 => ?_) (fun c1 => absurd (by decide) (of_decide_eq_false c1))
  refine zk_T.adv 6 (f' := (22, [(0, .ref 0), (1, .int (nI e))], [.int (v 20 8), .int (nI e), .ref 32])) (h' := zH (zb v 0 (upd (v 0) 10 0)) w t) rfl ?_
  rw [show (v 20 8) = nI Gn from hG]
  refine zk_T.cl (v := some (.int (zr_goodIn Gn (v 33) (nI e)))) (h' := zH (zb v 0 (upd (v 0) 10 0)) w t) rfl (zs_goodIn (v := (zb v 0 (upd (v 0) 10 0))) Gn h4 (nI e)) ?_
  show zk_T zk_mt zk_ex Ls xs zm_151 (25, [(0, .ref 0), (1, .int (nI e))], [.int (zr_goodIn Gn (v 33) (nI e))]) (zH (zb v 0 (upd (v 0) 10 0)) w t) _
  refine zk_T.adv 2 (f' := (27, [(0, .ref 0), (1, .int (nI e)), (2, .int (zr_goodIn Gn (v 33) (nI e)))], [.int (zr_goodIn Gn (v 33) (nI e))])) (h' := zH (zb v 0 (upd (v 0) 10 0)) w t) rfl ?_
  refine zk_T.br (f1 := (42, [(0, .ref 0), (1, .int (nI e)), (2, .int (zr_goodIn Gn (v 33) (nI e)))], [])) (f2 := (30, [(0, .ref 0), (1, .int (nI e)), (2, .int (zr_goodIn Gn (v 33) (nI e)))], [])) rfl (fun c2 => absurd (of_decide_eq_true c2) (Int32.not_le.mpr hgi)) (fun c2 => ?_)
  refine zk_T.adv 4 (f' := (38, [(0, .ref 0), (1, .int (nI e)), (2, .int (zr_goodIn Gn (v 33) (nI e)))], [.int (nI e), .ref 34])) (h' := zH (zb v 0 (upd (v 0) 10 0)) w t) rfl ?_
  refine zk_T.ob (f' := (39, [(0, .ref 0), (1, .int (nI e)), (2, .int (zr_goodIn Gn (v 33) (nI e)))], [.int (v 34 (nI e).toNatClampNeg)])) (h' := zH (zb v 0 (upd (v 0) 10 0)) w t) rfl (by first | exact zk_inN (by omega) (by decide) | decide) ?_
  rw [nI_clamp (show e < 2 ^ 31 by omega)]
  refine zk_T.adv 1 (f' := (63, [(0, .ref 0), (1, .int (nI e)), (2, .int (zr_goodIn Gn (v 33) (nI e)))], [.int (v 34 e)])) (h' := zH (zb v 0 (upd (v 0) 10 0)) w t) rfl ?_
  exact zk_T.rt rfl rfl (by rfl)
/-- BasketKeep.vain -/
theorem zK_vain_f (hst : v 0 2 = 1) (Mn : Nat) (hM : v 20 4 = nI Mn) (h5 : Mn ≤ 5) (e : Nat) (he : e < Mn) (Gn : Nat) (hG : v 20 8 = nI Gn) (h4 : Gn ≤ 4) (q : Nat) (hq : zr_goodIn Gn (v 33) (nI e) = nI q) (hq4 : q < 4) : zk_Cr zk_mt zk_ex Ls xs 151 [.ref 0, .int (nI e)] (zH v w t) (some (.int ((v 34 e) &&& ((v 27 q) ^^^ (-1)))), zH (zb v 0 (upd (v 0) 10 0)) w t) := by
  refine zk_Cr.of (K := zm_151) rfl rfl rfl ?_
  show zk_T zk_mt zk_ex Ls xs zm_151 (0, [(0, .ref 0), (1, .int (nI e))], []) (zH v w t) _
  refine zk_T.adv 2 (f' := (2, [(0, .ref 0), (1, .int (nI e))], [.int (nI e), .ref 0])) (h' := zH v w t) rfl ?_
  refine zk_T.cl (v := some (.int 0)) (h' := zH (zb v 0 (upd (v 0) 10 0)) w t) rfl (zs_noMaker_f (v := v) hst Mn hM h5 e he) ?_
  show zk_T zk_mt zk_ex Ls xs zm_151 (5, [(0, .ref 0), (1, .int (nI e))], [.int 0]) (zH (zb v 0 (upd (v 0) 10 0)) w t) _
  refine zk_T.br (f1 := (10, [(0, .ref 0), (1, .int (nI e))], [])) (f2 := (8, [(0, .ref 0), (1, .int (nI e))], [])) rfl (fun c1 => ?_) (fun c1 => absurd (by decide) (of_decide_eq_false c1))
  refine zk_T.adv 6 (f' := (22, [(0, .ref 0), (1, .int (nI e))], [.int (v 20 8), .int (nI e), .ref 32])) (h' := zH (zb v 0 (upd (v 0) 10 0)) w t) rfl ?_
  rw [show (v 20 8) = nI Gn from hG]
  refine zk_T.cl (v := some (.int (zr_goodIn Gn (v 33) (nI e)))) (h' := zH (zb v 0 (upd (v 0) 10 0)) w t) rfl (zs_goodIn (v := (zb v 0 (upd (v 0) 10 0))) Gn h4 (nI e)) ?_
  show zk_T zk_mt zk_ex Ls xs zm_151 (25, [(0, .ref 0), (1, .int (nI e))], [.int (zr_goodIn Gn (v 33) (nI e))]) (zH (zb v 0 (upd (v 0) 10 0)) w t) _
  rw [show zr_goodIn Gn (v 33) (nI e) = nI q from hq]
  refine zk_T.adv 2 (f' := (27, [(0, .ref 0), (1, .int (nI e)), (2, .int (nI q))], [.int (nI q)])) (h' := zH (zb v 0 (upd (v 0) 10 0)) w t) rfl ?_
  refine zk_T.br (f1 := (42, [(0, .ref 0), (1, .int (nI e)), (2, .int (nI q))], [])) (f2 := (30, [(0, .ref 0), (1, .int (nI e)), (2, .int (nI q))], [])) rfl (fun c2 => ?_) (fun c2 => absurd (nI_pos' (by omega)) (of_decide_eq_false c2))
  refine zk_T.adv 4 (f' := (50, [(0, .ref 0), (1, .int (nI e)), (2, .int (nI q))], [.int (nI e), .ref 34])) (h' := zH (zb v 0 (upd (v 0) 10 0)) w t) rfl ?_
  refine zk_T.ob (f' := (51, [(0, .ref 0), (1, .int (nI e)), (2, .int (nI q))], [.int (v 34 (nI e).toNatClampNeg)])) (h' := zH (zb v 0 (upd (v 0) 10 0)) w t) rfl (by first | exact zk_inN (by omega) (by decide) | decide) ?_
  rw [nI_clamp (show e < 2 ^ 31 by omega)]
  refine zk_T.adv 4 (f' := (59, [(0, .ref 0), (1, .int (nI e)), (2, .int (nI q))], [.int (nI q), .ref 27, .int (v 34 e)])) (h' := zH (zb v 0 (upd (v 0) 10 0)) w t) rfl ?_
  refine zk_T.ob (f' := (60, [(0, .ref 0), (1, .int (nI e)), (2, .int (nI q))], [.int (v 27 (nI q).toNatClampNeg), .int (v 34 e)])) (h' := zH (zb v 0 (upd (v 0) 10 0)) w t) rfl (by first | exact zk_inN (by omega) (by decide) | decide) ?_
  rw [nI_clamp (show q < 2 ^ 31 by omega)]
  refine zk_T.adv 3 (f' := (63, [(0, .ref 0), (1, .int (nI e)), (2, .int (nI q))], [.int ((v 34 e) &&& ((v 27 q) ^^^ (-1)))])) (h' := zH (zb v 0 (upd (v 0) 10 0)) w t) rfl ?_
  exact zk_T.rt rfl rfl (by rfl)
def zl_openGG (fe : Nat → Int32) (j : Nat) (s : Int32) : Int32 := match s with
  | f => f ||| (fe j)
theorem zl_openG (Gn : Nat) (hG : v 20 8 = nI Gn) (h4 : Gn ≤ 4) : ∀ (s : Int32) (q : Option Value × zk_H), zk_T zk_mt zk_ex Ls xs zm_145 ((fun (s : Int32) => ((42, [(0, .ref 0), (1, .int s), (2, .int (nI (0 + Gn)))], []) : zk_F)) (zf (zl_openGG (v 27)) Gn 0 s)) ((fun (s : Int32) => zH (zb v 0 (upd (v 0) 10 0)) w t) (zf (zl_openGG (v 27)) Gn 0 s)) q → zk_T zk_mt zk_ex Ls xs zm_145 (13, [(0, .ref 0), (1, .int s), (2, .int (nI 0))], []) (zH (zb v 0 (upd (v 0) 10 0)) w t) q := by
  intro s q hk
  refine zk_forK (M := zm_145) (fun j (s : Int32) => (13, [(0, .ref 0), (1, .int s), (2, .int (nI j))], [])) (fun _ (s : Int32) => zH (zb v 0 (upd (v 0) 10 0)) w t) (zl_openGG (v 27)) (fun _ _ => True) (fun (s : Int32) => (42, [(0, .ref 0), (1, .int s), (2, .int (nI (0 + Gn)))], [])) (fun (s : Int32) => zH (zb v 0 (upd (v 0) 10 0)) w t) (Gn) 0 s (fun _ _ _ _ _ => trivial) (fun j s hj1 hj2 hp q hk => ?_) (fun s hp q hk => ?_) ?_ q hk
  · have hz := True.intro
    obtain ⟨f, rfl⟩ : ∃ z, z = s := ⟨_, rfl⟩
    show zk_T zk_mt zk_ex Ls xs zm_145 (13, [(0, .ref 0), (1, .int f), (2, .int (nI j))], []) (zH (zb v 0 (upd (v 0) 10 0)) w t) q
    refine zk_T.adv 4 (f' := (21, [(0, .ref 0), (1, .int f), (2, .int (nI j))], [.int (v 20 8), .int (nI j)])) (h' := zH (zb v 0 (upd (v 0) 10 0)) w t) rfl ?_
    refine zk_T.br (f1 := (42, [(0, .ref 0), (1, .int f), (2, .int (nI j))], [])) (f2 := (24, [(0, .ref 0), (1, .int f), (2, .int (nI j))], [])) rfl (fun c1 => absurd (of_decide_eq_true c1) (by rw [hG]; exact nI_ge (show j < Gn by omega) (by omega))) (fun c1 => ?_)
    refine zk_T.adv 5 (f' := (33, [(0, .ref 0), (1, .int f), (2, .int (nI j))], [.int (nI j), .ref 27, .int f])) (h' := zH (zb v 0 (upd (v 0) 10 0)) w t) rfl ?_
    refine zk_T.ob (f' := (34, [(0, .ref 0), (1, .int f), (2, .int (nI j))], [.int (v 27 (nI j).toNatClampNeg), .int f])) (h' := zH (zb v 0 (upd (v 0) 10 0)) w t) rfl (by first | exact zk_inN (by omega) (by decide) | decide) ?_
    rw [nI_clamp (show j < 2 ^ 31 by omega)]
    refine zk_T.adv 4 (f' := (13, [(0, .ref 0), (1, .int (f ||| (v 27 j))), (2, .int ((nI j) + 1))], [])) (h' := zH (zb v 0 (upd (v 0) 10 0)) w t) rfl ?_
    rw [nI_1]
    simp only [zl_openGG] at hk
    exact hk
  · have hz := True.intro
    obtain ⟨f, rfl⟩ : ∃ z, z = s := ⟨_, rfl⟩
    show zk_T zk_mt zk_ex Ls xs zm_145 (13, [(0, .ref 0), (1, .int f), (2, .int (nI (0 + Gn)))], []) (zH (zb v 0 (upd (v 0) 10 0)) w t) q
    refine zk_T.adv 4 (f' := (21, [(0, .ref 0), (1, .int f), (2, .int (nI (0 + Gn)))], [.int (v 20 8), .int (nI (0 + Gn))])) (h' := zH (zb v 0 (upd (v 0) 10 0)) w t) rfl ?_
    refine zk_T.br (f1 := (42, [(0, .ref 0), (1, .int f), (2, .int (nI (0 + Gn)))], [])) (f2 := (24, [(0, .ref 0), (1, .int f), (2, .int (nI (0 + Gn)))], [])) rfl (fun c1 => ?_) (fun c1 => absurd (by rw [hG, Nat.zero_add]; exact nI_le (Nat.le_refl _) (by omega)) (of_decide_eq_false c1))
    exact hk
  · exact trivial
def zl_openMG (th : Nat → Int32) (j : Nat) (s : Int32) : Int32 := match s with
  | f => f &&& ((th j) ^^^ (-1))
theorem zl_openM (Mn : Nat) (hM : v 20 4 = nI Mn) (h5 : Mn ≤ 5) : ∀ (s : Int32) (q : Option Value × zk_H), zk_T zk_mt zk_ex Ls xs zm_145 ((fun (s : Int32) => ((75, [(0, .ref 0), (1, .int s), (2, .int (nI (0 + Mn)))], []) : zk_F)) (zf (zl_openMG (v 34)) Mn 0 s)) ((fun (s : Int32) => zH (zb v 0 (upd (v 0) 10 0)) w t) (zf (zl_openMG (v 34)) Mn 0 s)) q → zk_T zk_mt zk_ex Ls xs zm_145 (44, [(0, .ref 0), (1, .int s), (2, .int (nI 0))], []) (zH (zb v 0 (upd (v 0) 10 0)) w t) q := by
  intro s q hk
  refine zk_forK (M := zm_145) (fun j (s : Int32) => (44, [(0, .ref 0), (1, .int s), (2, .int (nI j))], [])) (fun _ (s : Int32) => zH (zb v 0 (upd (v 0) 10 0)) w t) (zl_openMG (v 34)) (fun _ _ => True) (fun (s : Int32) => (75, [(0, .ref 0), (1, .int s), (2, .int (nI (0 + Mn)))], [])) (fun (s : Int32) => zH (zb v 0 (upd (v 0) 10 0)) w t) (Mn) 0 s (fun _ _ _ _ _ => trivial) (fun j s hj1 hj2 hp q hk => ?_) (fun s hp q hk => ?_) ?_ q hk
  · have hz := True.intro
    obtain ⟨f, rfl⟩ : ∃ z, z = s := ⟨_, rfl⟩
    show zk_T zk_mt zk_ex Ls xs zm_145 (44, [(0, .ref 0), (1, .int f), (2, .int (nI j))], []) (zH (zb v 0 (upd (v 0) 10 0)) w t) q
    refine zk_T.adv 4 (f' := (52, [(0, .ref 0), (1, .int f), (2, .int (nI j))], [.int (v 20 4), .int (nI j)])) (h' := zH (zb v 0 (upd (v 0) 10 0)) w t) rfl ?_
    refine zk_T.br (f1 := (75, [(0, .ref 0), (1, .int f), (2, .int (nI j))], [])) (f2 := (55, [(0, .ref 0), (1, .int f), (2, .int (nI j))], [])) rfl (fun c1 => absurd (of_decide_eq_true c1) (by rw [hM]; exact nI_ge (show j < Mn by omega) (by omega))) (fun c1 => ?_)
    refine zk_T.adv 5 (f' := (64, [(0, .ref 0), (1, .int f), (2, .int (nI j))], [.int (nI j), .ref 34, .int f])) (h' := zH (zb v 0 (upd (v 0) 10 0)) w t) rfl ?_
    refine zk_T.ob (f' := (65, [(0, .ref 0), (1, .int f), (2, .int (nI j))], [.int (v 34 (nI j).toNatClampNeg), .int f])) (h' := zH (zb v 0 (upd (v 0) 10 0)) w t) rfl (by first | exact zk_inN (by omega) (by decide) | decide) ?_
    rw [nI_clamp (show j < 2 ^ 31 by omega)]
    refine zk_T.adv 6 (f' := (44, [(0, .ref 0), (1, .int (f &&& ((v 34 j) ^^^ (-1)))), (2, .int ((nI j) + 1))], [])) (h' := zH (zb v 0 (upd (v 0) 10 0)) w t) rfl ?_
    rw [nI_1]
    simp only [zl_openMG] at hk
    exact hk
  · have hz := True.intro
    obtain ⟨f, rfl⟩ : ∃ z, z = s := ⟨_, rfl⟩
    show zk_T zk_mt zk_ex Ls xs zm_145 (44, [(0, .ref 0), (1, .int f), (2, .int (nI (0 + Mn)))], []) (zH (zb v 0 (upd (v 0) 10 0)) w t) q
    refine zk_T.adv 4 (f' := (52, [(0, .ref 0), (1, .int f), (2, .int (nI (0 + Mn)))], [.int (v 20 4), .int (nI (0 + Mn))])) (h' := zH (zb v 0 (upd (v 0) 10 0)) w t) rfl ?_
    refine zk_T.br (f1 := (75, [(0, .ref 0), (1, .int f), (2, .int (nI (0 + Mn)))], [])) (f2 := (55, [(0, .ref 0), (1, .int f), (2, .int (nI (0 + Mn)))], [])) rfl (fun c1 => ?_) (fun c1 => absurd (by rw [hM, Nat.zero_add]; exact nI_le (Nat.le_refl _) (by omega)) (of_decide_eq_false c1))
    exact hk
  · exact trivial
/-- BasketKeep.open -/
theorem zK_open_t (hst : v 0 2 = 0) : zk_Cr zk_mt zk_ex Ls xs 145 [.ref 0] (zH v w t) (some (.int (-1)), zH (zb v 0 (upd (v 0) 10 1)) w t) := by
  refine zk_Cr.of (K := zm_145) rfl rfl rfl ?_
  show zk_T zk_mt zk_ex Ls xs zm_145 (0, [(0, .ref 0)], []) (zH v w t) _
  refine zk_T.adv 1 (f' := (1, [(0, .ref 0)], [.ref 0])) (h' := zH v w t) rfl ?_
  refine zk_T.cl (v := some (.int 1)) (h' := zH (zb v 0 (upd (v 0) 10 1)) w t) rfl (zs_noLevel_t (v := v) hst) ?_
  show zk_T zk_mt zk_ex Ls xs zm_145 (4, [(0, .ref 0)], [.int 1]) (zH (zb v 0 (upd (v 0) 10 1)) w t) _
  refine zk_T.br (f1 := (9, [(0, .ref 0)], [])) (f2 := (7, [(0, .ref 0)], [])) rfl (fun c1 => absurd (of_decide_eq_true c1) (by decide)) (fun c1 => ?_)
  refine zk_T.adv 1 (f' := (8, [(0, .ref 0)], [.int (-1)])) (h' := zH (zb v 0 (upd (v 0) 10 1)) w t) rfl ?_
  exact zk_T.rt rfl rfl (by rfl)
def zr_openK (Gn Mn : Nat) (fe th : Nat → Int32) : Int32 := (zf (zl_openMG (th)) Mn 0 (zf (zl_openGG (fe)) Gn 0 0))
/-- BasketKeep.open -/
theorem zK_open_f (hst : v 0 2 = 1) (Gn : Nat) (hG : v 20 8 = nI Gn) (h4 : Gn ≤ 4) (Mn : Nat) (hM : v 20 4 = nI Mn) (h5 : Mn ≤ 5) : zk_Cr zk_mt zk_ex Ls xs 145 [.ref 0] (zH v w t) (some (.int (zr_openK Gn Mn (v 27) (v 34))), zH (zb v 0 (upd (v 0) 10 0)) w t) := by
  refine zk_Cr.of (K := zm_145) rfl rfl rfl ?_
  show zk_T zk_mt zk_ex Ls xs zm_145 (0, [(0, .ref 0)], []) (zH v w t) _
  refine zk_T.adv 1 (f' := (1, [(0, .ref 0)], [.ref 0])) (h' := zH v w t) rfl ?_
  refine zk_T.cl (v := some (.int 0)) (h' := zH (zb v 0 (upd (v 0) 10 0)) w t) rfl (zs_noLevel_f (v := v) hst) ?_
  show zk_T zk_mt zk_ex Ls xs zm_145 (4, [(0, .ref 0)], [.int 0]) (zH (zb v 0 (upd (v 0) 10 0)) w t) _
  refine zk_T.br (f1 := (9, [(0, .ref 0)], [])) (f2 := (7, [(0, .ref 0)], [])) rfl (fun c1 => ?_) (fun c1 => absurd (by decide) (of_decide_eq_false c1))
  refine zk_T.adv 4 (f' := (13, [(0, .ref 0), (1, .int 0), (2, .int 0)], [])) (h' := zH (zb v 0 (upd (v 0) 10 0)) w t) rfl ?_
  refine zl_openG Gn hG h4 0 _ ?_
  show zk_T zk_mt zk_ex Ls xs zm_145 (42, [(0, .ref 0), (1, .int (zf (zl_openGG (v 27)) Gn 0 0)), (2, .int (nI (0 + Gn)))], []) (zH (zb v 0 (upd (v 0) 10 0)) w t) _
  refine zk_T.adv 2 (f' := (44, [(0, .ref 0), (1, .int (zf (zl_openGG (v 27)) Gn 0 0)), (2, .int 0)], [])) (h' := zH (zb v 0 (upd (v 0) 10 0)) w t) rfl ?_
  refine zl_openM Mn hM h5 (zf (zl_openGG (v 27)) Gn 0 0) _ ?_
  show zk_T zk_mt zk_ex Ls xs zm_145 (75, [(0, .ref 0), (1, .int (zf (zl_openMG (v 34)) Mn 0 (zf (zl_openGG (v 27)) Gn 0 0))), (2, .int (nI (0 + Mn)))], []) (zH (zb v 0 (upd (v 0) 10 0)) w t) _
  refine zk_T.adv 1 (f' := (76, [(0, .ref 0), (1, .int (zf (zl_openMG (v 34)) Mn 0 (zf (zl_openGG (v 27)) Gn 0 0))), (2, .int (nI (0 + Mn)))], [.int (zf (zl_openMG (v 34)) Mn 0 (zf (zl_openGG (v 27)) Gn 0 0))])) (h' := zH (zb v 0 (upd (v 0) 10 0)) w t) rfl ?_
  exact zk_T.rt rfl rfl (by rfl)
def zl_thoG (th : Nat → Int32) (s0 : Int32) (j : Nat) (s : Int32) : Int32 := match s with
  | b => if ((s0 >>> ((nI j) &&& 31)) &&& 1) = 0 then b else b ||| (th j)
theorem zl_tho (s0 : Int32) : ∀ (s : Int32) (q : Option Value × zk_H), zk_T zk_mt zk_ex Ls xs zm_34 ((fun (s : Int32) => ((32, [(0, .ref 32), (1, .int s0), (2, .int s), (3, .int (nI (0 + 5)))], []) : zk_F)) (zf (zl_thoG (v 34) s0) 5 0 s)) ((fun (s : Int32) => zH v w t) (zf (zl_thoG (v 34) s0) 5 0 s)) q → zk_T zk_mt zk_ex Ls xs zm_34 (4, [(0, .ref 32), (1, .int s0), (2, .int s), (3, .int (nI 0))], []) (zH v w t) q := by
  intro s q hk
  refine zk_forK (M := zm_34) (fun j (s : Int32) => (4, [(0, .ref 32), (1, .int s0), (2, .int s), (3, .int (nI j))], [])) (fun _ (s : Int32) => zH v w t) (zl_thoG (v 34) s0) (fun _ _ => True) (fun (s : Int32) => (32, [(0, .ref 32), (1, .int s0), (2, .int s), (3, .int (nI (0 + 5)))], [])) (fun (s : Int32) => zH v w t) (5) 0 s (fun _ _ _ _ _ => trivial) (fun j s hj1 hj2 hp q hk => ?_) (fun s hp q hk => ?_) ?_ q hk
  · have hz := True.intro
    obtain ⟨b, rfl⟩ : ∃ z, z = s := ⟨_, rfl⟩
    show zk_T zk_mt zk_ex Ls xs zm_34 (4, [(0, .ref 32), (1, .int s0), (2, .int b), (3, .int (nI j))], []) (zH v w t) q
    refine zk_T.adv 2 (f' := (6, [(0, .ref 32), (1, .int s0), (2, .int b), (3, .int (nI j))], [.int 5, .int (nI j)])) (h' := zH v w t) rfl ?_
    refine zk_T.br (f1 := (32, [(0, .ref 32), (1, .int s0), (2, .int b), (3, .int (nI j))], [])) (f2 := (9, [(0, .ref 32), (1, .int s0), (2, .int b), (3, .int (nI j))], [])) rfl (fun c1 => absurd (of_decide_eq_true c1) (nI_ge (show j < 5 by omega) (by decide))) (fun c1 => ?_)
    refine zk_T.adv 5 (f' := (14, [(0, .ref 32), (1, .int s0), (2, .int b), (3, .int (nI j))], [.int ((s0 >>> ((nI j) &&& 31)) &&& 1)])) (h' := zH v w t) rfl ?_
    refine zk_T.br (f1 := (26, [(0, .ref 32), (1, .int s0), (2, .int b), (3, .int (nI j))], [])) (f2 := (17, [(0, .ref 32), (1, .int s0), (2, .int b), (3, .int (nI j))], [])) rfl (fun c2 => ?_) (fun c2 => ?_)
    · have c2 : ((s0 >>> ((nI j) &&& 31)) &&& 1) = 0 := of_decide_eq_true c2
      refine zk_T.adv 2 (f' := (4, [(0, .ref 32), (1, .int s0), (2, .int b), (3, .int ((nI j) + 1))], [])) (h' := zH v w t) rfl ?_
      rw [nI_1]
      simp only [zl_thoG, if_pos c2] at hk
      exact hk
    · have c2 : ¬ (((s0 >>> ((nI j) &&& 31)) &&& 1) = 0) := of_decide_eq_false c2
      refine zk_T.adv 4 (f' := (23, [(0, .ref 32), (1, .int s0), (2, .int b), (3, .int (nI j))], [.int (nI j), .ref 34, .int b])) (h' := zH v w t) rfl ?_
      refine zk_T.ob (f' := (24, [(0, .ref 32), (1, .int s0), (2, .int b), (3, .int (nI j))], [.int (v 34 (nI j).toNatClampNeg), .int b])) (h' := zH v w t) rfl (by first | exact zk_inN (by omega) (by decide) | decide) ?_
      rw [nI_clamp (show j < 2 ^ 31 by omega)]
      refine zk_T.adv 4 (f' := (4, [(0, .ref 32), (1, .int s0), (2, .int (b ||| (v 34 j))), (3, .int ((nI j) + 1))], [])) (h' := zH v w t) rfl ?_
      rw [nI_1]
      simp only [zl_thoG, if_neg c2] at hk
      exact hk
  · have hz := True.intro
    obtain ⟨b, rfl⟩ : ∃ z, z = s := ⟨_, rfl⟩
    show zk_T zk_mt zk_ex Ls xs zm_34 (4, [(0, .ref 32), (1, .int s0), (2, .int b), (3, .int (nI (0 + 5)))], []) (zH v w t) q
    refine zk_T.adv 2 (f' := (6, [(0, .ref 32), (1, .int s0), (2, .int b), (3, .int (nI (0 + 5)))], [.int 5, .int (nI (0 + 5))])) (h' := zH v w t) rfl ?_
    refine zk_T.br (f1 := (32, [(0, .ref 32), (1, .int s0), (2, .int b), (3, .int (nI (0 + 5)))], [])) (f2 := (9, [(0, .ref 32), (1, .int s0), (2, .int b), (3, .int (nI (0 + 5)))], [])) rfl (fun c1 => ?_) (fun c1 => absurd (by decide) (of_decide_eq_false c1))
    exact hk
  · exact trivial
def zr_tho (th : Nat → Int32) (s0 : Int32) : Int32 := (zf (zl_thoG (th) s0) 5 0 0)
/-- BasketKeep$Planner.thoughtsOf -/
theorem zs_tho (s0 : Int32) : zk_Cr zk_mt zk_ex Ls xs 34 [.ref 32, .int s0] (zH v w t) (some (.int (zr_tho (v 34) s0)), zH v w t) := by
  refine zk_Cr.of (K := zm_34) rfl rfl rfl ?_
  show zk_T zk_mt zk_ex Ls xs zm_34 (0, [(0, .ref 32), (1, .int s0)], []) (zH v w t) _
  refine zk_T.adv 4 (f' := (4, [(0, .ref 32), (1, .int s0), (2, .int 0), (3, .int 0)], [])) (h' := zH v w t) rfl ?_
  refine zl_tho s0 0 _ ?_
  show zk_T zk_mt zk_ex Ls xs zm_34 (32, [(0, .ref 32), (1, .int s0), (2, .int (zf (zl_thoG (v 34) s0) 5 0 0)), (3, .int (nI (0 + 5)))], []) (zH v w t) _
  refine zk_T.adv 1 (f' := (33, [(0, .ref 32), (1, .int s0), (2, .int (zf (zl_thoG (v 34) s0) 5 0 0)), (3, .int (nI (0 + 5)))], [.int (zf (zl_thoG (v 34) s0) 5 0 0)])) (h' := zH v w t) rfl ?_
  exact zk_T.rt rfl rfl (by rfl)
def zl_fewMG (fe th : Nat → Int32) (a : Nat) (j : Nat) (s : Int32 × Int32) : Int32 × Int32 := match s with
  | (be, fw) => if fw ≤ (zr_bc (nI j)) then (be, fw) else (if ((fe a) &&& ((zr_tho (th) (nI j)) ^^^ (-1))) = 0 then (nI j, zr_bc (nI j)) else (be, fw))
theorem zl_fewM (Mn : Nat) (hM : v 20 4 = nI Mn) (h5 : Mn ≤ 5) (N : Nat) (hN : 2 ^ Mn = N) (hN2 : N ≤ 256) (a : Nat) (ha : a < 4) : ∀ (s : Int32 × Int32) (q : Option Value × zk_H), zk_T zk_mt zk_ex Ls xs zm_100 ((fun (s : Int32 × Int32) => ((72, [(1, .ref 20), (2, .ref 32), (3, .int (nI a)), (4, .int s.1), (5, .int s.2), (6, .int (nI (0 + N)))], []) : zk_F)) (zf (zl_fewMG (v 27) (v 34) a) N 0 s)) ((fun (s : Int32 × Int32) => zH v w t) (zf (zl_fewMG (v 27) (v 34) a) N 0 s)) q → zk_T zk_mt zk_ex Ls xs zm_100 (15, [(1, .ref 20), (2, .ref 32), (3, .int (nI a)), (4, .int s.1), (5, .int s.2), (6, .int (nI 0))], []) (zH v w t) q := by
  intro s q hk
  refine zk_forK (M := zm_100) (fun j (s : Int32 × Int32) => (15, [(1, .ref 20), (2, .ref 32), (3, .int (nI a)), (4, .int s.1), (5, .int s.2), (6, .int (nI j))], [])) (fun _ (s : Int32 × Int32) => zH v w t) (zl_fewMG (v 27) (v 34) a) (fun _ _ => True) (fun (s : Int32 × Int32) => (72, [(1, .ref 20), (2, .ref 32), (3, .int (nI a)), (4, .int s.1), (5, .int s.2), (6, .int (nI (0 + N)))], [])) (fun (s : Int32 × Int32) => zH v w t) (N) 0 s (fun _ _ _ _ _ => trivial) (fun j s hj1 hj2 hp q hk => ?_) (fun s hp q hk => ?_) ?_ q hk
  · obtain ⟨be, fw⟩ := s
    show zk_T zk_mt zk_ex Ls xs zm_100 (15, [(1, .ref 20), (2, .ref 32), (3, .int (nI a)), (4, .int be), (5, .int fw), (6, .int (nI j))], []) (zH v w t) q
    refine zk_T.adv 4 (f' := (22, [(1, .ref 20), (2, .ref 32), (3, .int (nI a)), (4, .int be), (5, .int fw), (6, .int (nI j))], [.int (v 20 4), .int 1, .int (nI j)])) (h' := zH v w t) rfl ?_
    rw [show (v 20 4) = nI Mn from hM]
    refine zk_T.adv 1 (f' := (23, [(1, .ref 20), (2, .ref 32), (3, .int (nI a)), (4, .int be), (5, .int fw), (6, .int (nI j))], [.int ((1 : Int32) <<< ((nI Mn) &&& 31)), .int (nI j)])) (h' := zH v w t) rfl ?_
    rw [show (1 : Int32) <<< ((nI Mn) &&& 31) = nI N from (by rw [zk_shl1 Mn (by omega), hN])]
    refine zk_T.br (f1 := (72, [(1, .ref 20), (2, .ref 32), (3, .int (nI a)), (4, .int be), (5, .int fw), (6, .int (nI j))], [])) (f2 := (26, [(1, .ref 20), (2, .ref 32), (3, .int (nI a)), (4, .int be), (5, .int fw), (6, .int (nI j))], [])) rfl (fun c1 => absurd (of_decide_eq_true c1) (nI_ge (show j < N by omega) (by omega))) (fun c1 => ?_)
    refine zk_T.adv 1 (f' := (28, [(1, .ref 20), (2, .ref 32), (3, .int (nI a)), (4, .int be), (5, .int fw), (6, .int (nI j))], [.int (nI j)])) (h' := zH v w t) rfl ?_
    refine zk_T.cl (v := some (.int (zr_bc (nI j)))) (h' := zH v w t) rfl (zs_bc (nI j)) ?_
    show zk_T zk_mt zk_ex Ls xs zm_100 (31, [(1, .ref 20), (2, .ref 32), (3, .int (nI a)), (4, .int be), (5, .int fw), (6, .int (nI j))], [.int (zr_bc (nI j))]) (zH v w t) _
    refine zk_T.adv 3 (f' := (37, [(1, .ref 20), (2, .ref 32), (3, .int (nI a)), (4, .int be), (5, .int fw), (6, .int (nI j)), (7, .int (zr_bc (nI j)))], [.int fw, .int (zr_bc (nI j))])) (h' := zH v w t) rfl ?_
    refine zk_T.br (f1 := (66, [(1, .ref 20), (2, .ref 32), (3, .int (nI a)), (4, .int be), (5, .int fw), (6, .int (nI j)), (7, .int (zr_bc (nI j)))], [])) (f2 := (40, [(1, .ref 20), (2, .ref 32), (3, .int (nI a)), (4, .int be), (5, .int fw), (6, .int (nI j)), (7, .int (zr_bc (nI j)))], [])) rfl (fun c2 => ?_) (fun c2 => ?_)
    · have c2 : fw ≤ (zr_bc (nI j)) := of_decide_eq_true c2
      refine zk_T.adv 2 (f' := (15, [(1, .ref 20), (2, .ref 32), (3, .int (nI a)), (4, .int be), (5, .int fw), (6, .int ((nI j) + 1))], [])) (h' := zH v w t) rfl ?_
      rw [nI_1]
      simp only [zl_fewMG, if_pos c2] at hk
      exact hk
    · have c2 : ¬ (fw ≤ (zr_bc (nI j))) := of_decide_eq_false c2
      refine zk_T.adv 3 (f' := (45, [(1, .ref 20), (2, .ref 32), (3, .int (nI a)), (4, .int be), (5, .int fw), (6, .int (nI j)), (7, .int (zr_bc (nI j)))], [.int (nI a), .ref 27])) (h' := zH v w t) rfl ?_
      refine zk_T.ob (f' := (46, [(1, .ref 20), (2, .ref 32), (3, .int (nI a)), (4, .int be), (5, .int fw), (6, .int (nI j)), (7, .int (zr_bc (nI j)))], [.int (v 27 (nI a).toNatClampNeg)])) (h' := zH v w t) rfl (by first | exact zk_inN (by omega) (by decide) | decide) ?_
      rw [nI_clamp (show a < 2 ^ 31 by omega)]
      refine zk_T.adv 2 (f' := (49, [(1, .ref 20), (2, .ref 32), (3, .int (nI a)), (4, .int be), (5, .int fw), (6, .int (nI j)), (7, .int (zr_bc (nI j)))], [.int (nI j), .ref 32, .int (v 27 a)])) (h' := zH v w t) rfl ?_
      refine zk_T.cl (v := some (.int (zr_tho (v 34) (nI j)))) (h' := zH v w t) rfl (zs_tho (v := v) (nI j)) ?_
      show zk_T zk_mt zk_ex Ls xs zm_100 (52, [(1, .ref 20), (2, .ref 32), (3, .int (nI a)), (4, .int be), (5, .int fw), (6, .int (nI j)), (7, .int (zr_bc (nI j)))], [.int (zr_tho (v 34) (nI j)), .int (v 27 a)]) (zH v w t) _
      refine zk_T.adv 3 (f' := (55, [(1, .ref 20), (2, .ref 32), (3, .int (nI a)), (4, .int be), (5, .int fw), (6, .int (nI j)), (7, .int (zr_bc (nI j)))], [.int ((v 27 a) &&& ((zr_tho (v 34) (nI j)) ^^^ (-1)))])) (h' := zH v w t) rfl ?_
      refine zk_T.br (f1 := (58, [(1, .ref 20), (2, .ref 32), (3, .int (nI a)), (4, .int be), (5, .int fw), (6, .int (nI j)), (7, .int (zr_bc (nI j)))], [])) (f2 := (66, [(1, .ref 20), (2, .ref 32), (3, .int (nI a)), (4, .int be), (5, .int fw), (6, .int (nI j)), (7, .int (zr_bc (nI j)))], [])) rfl (fun c3 => ?_) (fun c3 => ?_)
      · have c3 : ((v 27 a) &&& ((zr_tho (v 34) (nI j)) ^^^ (-1))) = 0 := of_decide_eq_true c3
        refine zk_T.adv 6 (f' := (15, [(1, .ref 20), (2, .ref 32), (3, .int (nI a)), (4, .int (nI j)), (5, .int (zr_bc (nI j))), (6, .int ((nI j) + 1))], [])) (h' := zH v w t) rfl ?_
        rw [nI_1]
        simp only [zl_fewMG, if_neg c2, if_pos c3] at hk
        exact hk
      · have c3 : ¬ (((v 27 a) &&& ((zr_tho (v 34) (nI j)) ^^^ (-1))) = 0) := of_decide_eq_false c3
        refine zk_T.adv 2 (f' := (15, [(1, .ref 20), (2, .ref 32), (3, .int (nI a)), (4, .int be), (5, .int fw), (6, .int ((nI j) + 1))], [])) (h' := zH v w t) rfl ?_
        rw [nI_1]
        simp only [zl_fewMG, if_neg c2, if_neg c3] at hk
        exact hk
  · obtain ⟨be, fw⟩ := s
    show zk_T zk_mt zk_ex Ls xs zm_100 (15, [(1, .ref 20), (2, .ref 32), (3, .int (nI a)), (4, .int be), (5, .int fw), (6, .int (nI (0 + N)))], []) (zH v w t) q
    refine zk_T.adv 4 (f' := (22, [(1, .ref 20), (2, .ref 32), (3, .int (nI a)), (4, .int be), (5, .int fw), (6, .int (nI (0 + N)))], [.int (v 20 4), .int 1, .int (nI (0 + N))])) (h' := zH v w t) rfl ?_
    rw [show (v 20 4) = nI Mn from hM]
    refine zk_T.adv 1 (f' := (23, [(1, .ref 20), (2, .ref 32), (3, .int (nI a)), (4, .int be), (5, .int fw), (6, .int (nI (0 + N)))], [.int ((1 : Int32) <<< ((nI Mn) &&& 31)), .int (nI (0 + N))])) (h' := zH v w t) rfl ?_
    rw [show (1 : Int32) <<< ((nI Mn) &&& 31) = nI N from (by rw [zk_shl1 Mn (by omega), hN])]
    refine zk_T.br (f1 := (72, [(1, .ref 20), (2, .ref 32), (3, .int (nI a)), (4, .int be), (5, .int fw), (6, .int (nI (0 + N)))], [])) (f2 := (26, [(1, .ref 20), (2, .ref 32), (3, .int (nI a)), (4, .int be), (5, .int fw), (6, .int (nI (0 + N)))], [])) rfl (fun c1 => ?_) (fun c1 => absurd (by rw [Nat.zero_add]; exact nI_le (Nat.le_refl _) (by omega)) (of_decide_eq_false c1))
    exact hk
  · exact trivial
def zr_fewM (Mn N : Nat) (fe th : Nat → Int32) (a : Nat) : Int32 := ((zf (zl_fewMG (fe) (th) a) N 0 ((-2), (nI Mn) + 1)).1)
/-- BasketKeep$Planner.fewestMakers -/
theorem zs_fewM (Mn : Nat) (hM : v 20 4 = nI Mn) (h5 : Mn ≤ 5) (N : Nat) (hN : 2 ^ Mn = N) (hN2 : N ≤ 256) (a : Nat) (ha : a < 4) : zk_Cr zk_mt zk_ex Ls xs 100 [.ref 51, .ref 20, .ref 32, .int (nI a)] (zH v w t) (some (.int (zr_fewM Mn N (v 27) (v 34) a)), zH v w t) := by
  refine zk_Cr.of (K := zm_100) rfl rfl rfl ?_
  show zk_T zk_mt zk_ex Ls xs zm_100 (0, [(0, .ref 51), (1, .ref 20), (2, .ref 32), (3, .int (nI a))], []) (zH v w t) _
  refine zk_T.adv 4 (f' := (8, [(0, .ref 51), (1, .ref 20), (2, .ref 32), (3, .int (nI a)), (4, .int (-2))], [.int (v 20 4)])) (h' := zH v w t) rfl ?_
  rw [show (v 20 4) = nI Mn from hM]
  refine zk_T.adv 5 (f' := (15, [(1, .ref 20), (2, .ref 32), (3, .int (nI a)), (4, .int (-2)), (5, .int ((nI Mn) + 1)), (6, .int 0)], [])) (h' := zH v w t) rfl ?_
  refine zl_fewM Mn hM h5 N hN hN2 a ha ((-2), (nI Mn) + 1) _ ?_
  show zk_T zk_mt zk_ex Ls xs zm_100 (72, [(1, .ref 20), (2, .ref 32), (3, .int (nI a)), (4, .int ((zf (zl_fewMG (v 27) (v 34) a) N 0 ((-2), (nI Mn) + 1)).1)), (5, .int ((zf (zl_fewMG (v 27) (v 34) a) N 0 ((-2), (nI Mn) + 1)).2)), (6, .int (nI (0 + N)))], []) (zH v w t) _
  refine zk_T.adv 1 (f' := (74, [(1, .ref 20), (2, .ref 32), (3, .int (nI a)), (4, .int ((zf (zl_fewMG (v 27) (v 34) a) N 0 ((-2), (nI Mn) + 1)).1)), (5, .int ((zf (zl_fewMG (v 27) (v 34) a) N 0 ((-2), (nI Mn) + 1)).2)), (6, .int (nI (0 + N)))], [.int ((zf (zl_fewMG (v 27) (v 34) a) N 0 ((-2), (nI Mn) + 1)).1)])) (h' := zH v w t) rfl ?_
  exact zk_T.rt rfl rfl (by rfl)
/-- BasketKeep.nest -/
theorem zK_nest_t (x : Int32) (hx : v 0 2 = 0 ∨ x < 0 ∨ v 20 8 ≤ x) : zk_Cr zk_mt zk_ex Ls xs 143 [.ref 0, .int x] (zH v w t) (some (.int (-1)), zH (zb v 0 (upd (v 0) 10 1)) w t) := by
  refine zk_Cr.of (K := zm_143) rfl rfl rfl ?_
  show zk_T zk_mt zk_ex Ls xs zm_143 (0, [(0, .ref 0), (1, .int x)], []) (zH v w t) _
  refine zk_T.adv 2 (f' := (2, [(0, .ref 0), (1, .int x)], [.int x, .ref 0])) (h' := zH v w t) rfl ?_
  refine zk_T.cl (v := some (.int 1)) (h' := zH (zb v 0 (upd (v 0) 10 1)) w t) rfl (zs_noGood_t (v := v) x hx) ?_
  show zk_T zk_mt zk_ex Ls xs zm_143 (5, [(0, .ref 0), (1, .int x)], [.int 1]) (zH (zb v 0 (upd (v 0) 10 1)) w t) _
  refine zk_T.br (f1 := (12, [(0, .ref 0), (1, .int x)], [])) (f2 := (8, [(0, .ref 0), (1, .int x)], [])) rfl (fun c1 => absurd (of_decide_eq_true c1) (by decide)) (fun c1 => ?_)
  refine zk_T.adv 2 (f' := (28, [(0, .ref 0), (1, .int x)], [.int (-1)])) (h' := zH (zb v 0 (upd (v 0) 10 1)) w t) rfl ?_
  exact zk_T.rt rfl rfl (by rfl)
/-- BasketKeep.nest -/
theorem zK_nest_f (hst : v 0 2 = 1) (Gn : Nat) (hG : v 20 8 = nI Gn) (h4 : Gn ≤ 4) (a : Nat) (ha : a < Gn) (Mn : Nat) (hM : v 20 4 = nI Mn) (h5 : Mn ≤ 5) (N : Nat) (hN : 2 ^ Mn = N) (hN2 : N ≤ 256) : zk_Cr zk_mt zk_ex Ls xs 143 [.ref 0, .int (nI a)] (zH v w t) (some (.int (zr_fewM Mn N (v 27) (v 34) a)), zH (zb v 0 (upd (v 0) 10 0)) w t) := by
  refine zk_Cr.of (K := zm_143) rfl rfl rfl ?_
  show zk_T zk_mt zk_ex Ls xs zm_143 (0, [(0, .ref 0), (1, .int (nI a))], []) (zH v w t) _
  refine zk_T.adv 2 (f' := (2, [(0, .ref 0), (1, .int (nI a))], [.int (nI a), .ref 0])) (h' := zH v w t) rfl ?_
  refine zk_T.cl (v := some (.int 0)) (h' := zH (zb v 0 (upd (v 0) 10 0)) w t) rfl (zs_noGood_f (v := v) hst Gn hG h4 a ha) ?_
  show zk_T zk_mt zk_ex Ls xs zm_143 (5, [(0, .ref 0), (1, .int (nI a))], [.int 0]) (zH (zb v 0 (upd (v 0) 10 0)) w t) _
  refine zk_T.br (f1 := (12, [(0, .ref 0), (1, .int (nI a))], [])) (f2 := (8, [(0, .ref 0), (1, .int (nI a))], [])) rfl (fun c1 => ?_) (fun c1 => absurd (by decide) (of_decide_eq_false c1))
  refine zk_T.adv 7 (f' := (25, [(0, .ref 0), (1, .int (nI a))], [.int (nI a), .ref 32, .ref 20, .ref 51])) (h' := zH (zb v 0 (upd (v 0) 10 0)) w t) rfl ?_
  refine zk_T.cl (v := some (.int (zr_fewM Mn N (v 27) (v 34) a))) (h' := zH (zb v 0 (upd (v 0) 10 0)) w t) rfl (zs_fewM (v := (zb v 0 (upd (v 0) 10 0))) Mn hM h5 N hN hN2 a (by omega)) ?_
  show zk_T zk_mt zk_ex Ls xs zm_143 (28, [(0, .ref 0), (1, .int (nI a))], [.int (zr_fewM Mn N (v 27) (v 34) a)]) (zH (zb v 0 (upd (v 0) 10 0)) w t) _
  exact zk_T.rt rfl rfl (by rfl)
end Z35
