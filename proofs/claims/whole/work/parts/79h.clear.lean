/-! contracts: a level cleared -/
section Z44
variable {Ls : Nat} {xs : Nat → Int32} {v : Nat → Nat → Int32} {w : Nat → Nat → Int64} {t : zk_H}
def zl_fillLiesGG (x : Int32) (j : Nat) (s : (Nat → Int32)) : (Nat → Int32) := match s with
  | f => upd f j x
theorem zl_fillLies (x : Int32) : ∀ (s : (Nat → Int32)) (q : Option Value × zk_H), zk_T zk_mt zk_ex Ls xs zm_73 ((fun (s : (Nat → Int32)) => ((20, [(0, .ref 12), (1, .int x), (2, .int (nI (0 + 4))), (3, .int (Int32.ofNat 4))], []) : zk_F)) (zf (zl_fillLiesGG x) 4 0 s)) ((fun (s : (Nat → Int32)) => zH (zb v 12 s) w t) (zf (zl_fillLiesGG x) 4 0 s)) q → zk_T zk_mt zk_ex Ls xs zm_73 (5, [(0, .ref 12), (1, .int x), (2, .int (nI 0)), (3, .int (Int32.ofNat 4))], []) (zH (zb v 12 s) w t) q := by
  intro s q hk
  refine zk_forK (M := zm_73) (fun j (s : (Nat → Int32)) => (5, [(0, .ref 12), (1, .int x), (2, .int (nI j)), (3, .int (Int32.ofNat 4))], [])) (fun _ (s : (Nat → Int32)) => zH (zb v 12 s) w t) (zl_fillLiesGG x) (fun _ _ => True) (fun (s : (Nat → Int32)) => (20, [(0, .ref 12), (1, .int x), (2, .int (nI (0 + 4))), (3, .int (Int32.ofNat 4))], [])) (fun (s : (Nat → Int32)) => zH (zb v 12 s) w t) (4) 0 s (fun _ _ _ _ _ => trivial) (fun j s hj1 hj2 hp q hk => ?_) (fun s hp q hk => ?_) ?_ q hk
  · have hz := True.intro
    obtain ⟨f, rfl⟩ : ∃ z, z = s := ⟨_, rfl⟩
    show zk_T zk_mt zk_ex Ls xs zm_73 (5, [(0, .ref 12), (1, .int x), (2, .int (nI j)), (3, .int (Int32.ofNat 4))], []) (zH (zb v 12 f) w t) q
    refine zk_T.adv 2 (f' := (7, [(0, .ref 12), (1, .int x), (2, .int (nI j)), (3, .int (Int32.ofNat 4))], [.int (Int32.ofNat 4), .int (nI j)])) (h' := zH (zb v 12 f) w t) rfl ?_
    refine zk_T.br (f1 := (20, [(0, .ref 12), (1, .int x), (2, .int (nI j)), (3, .int (Int32.ofNat 4))], [])) (f2 := (10, [(0, .ref 12), (1, .int x), (2, .int (nI j)), (3, .int (Int32.ofNat 4))], [])) rfl (fun c1 => absurd (of_decide_eq_true c1) (show ¬ Int32.ofNat 4 ≤ nI j from nI_ge (b := 4) (show j < 4 by omega) (by decide))) (fun c1 => ?_)
    refine zk_T.adv 3 (f' := (13, [(0, .ref 12), (1, .int x), (2, .int (nI j)), (3, .int (Int32.ofNat 4))], [.int x, .int (nI j), .ref 12])) (h' := zH (zb v 12 f) w t) rfl ?_
    refine zk_T.ob (f' := (14, [(0, .ref 12), (1, .int x), (2, .int (nI j)), (3, .int (Int32.ofNat 4))], [])) (h' := zH (zb v 12 (upd f (nI j).toNatClampNeg x)) w t) rfl (by first | exact zk_inN (by omega) (by decide) | decide) ?_
    rw [nI_clamp (show j < 2 ^ 31 by omega)]
    refine zk_T.adv 2 (f' := (5, [(0, .ref 12), (1, .int x), (2, .int ((nI j) + 1)), (3, .int (Int32.ofNat 4))], [])) (h' := zH (zb v 12 (upd f j x)) w t) rfl ?_
    rw [nI_1]
    simp only [zl_fillLiesGG] at hk
    exact hk
  · have hz := True.intro
    obtain ⟨f, rfl⟩ : ∃ z, z = s := ⟨_, rfl⟩
    show zk_T zk_mt zk_ex Ls xs zm_73 (5, [(0, .ref 12), (1, .int x), (2, .int (nI (0 + 4))), (3, .int (Int32.ofNat 4))], []) (zH (zb v 12 f) w t) q
    refine zk_T.adv 2 (f' := (7, [(0, .ref 12), (1, .int x), (2, .int (nI (0 + 4))), (3, .int (Int32.ofNat 4))], [.int (Int32.ofNat 4), .int (nI (0 + 4))])) (h' := zH (zb v 12 f) w t) rfl ?_
    refine zk_T.br (f1 := (20, [(0, .ref 12), (1, .int x), (2, .int (nI (0 + 4))), (3, .int (Int32.ofNat 4))], [])) (f2 := (10, [(0, .ref 12), (1, .int x), (2, .int (nI (0 + 4))), (3, .int (Int32.ofNat 4))], [])) rfl (fun c1 => ?_) (fun c1 => absurd (by decide) (of_decide_eq_false c1))
    exact hk
  · exact trivial
/-- java/util/Arrays.fill -/
theorem zs_fillLies (x : Int32) : zk_Cr zk_mt zk_ex Ls xs 73 [.ref 12, .int x] (zH v w t) (none, zH (zb v 12 (zf (zl_fillLiesGG x) 4 0 (v 12))) w t) := by
  refine zk_Cr.of (K := zm_73) rfl rfl rfl ?_
  show zk_T zk_mt zk_ex Ls xs zm_73 (0, [(0, .ref 12), (1, .int x)], []) (zH v w t) _
  refine zk_T.adv 5 (f' := (5, [(0, .ref 12), (1, .int x), (2, .int 0), (3, .int (Int32.ofNat 4))], [])) (h' := zH v w t) rfl ?_
  refine zl_fillLies (v := v) x (v 12) _ ?_
  show zk_T zk_mt zk_ex Ls xs zm_73 (20, [(0, .ref 12), (1, .int x), (2, .int (nI (0 + 4))), (3, .int (Int32.ofNat 4))], []) (zH (zb v 12 (zf (zl_fillLiesGG x) 4 0 (v 12))) w t) _
  exact zk_T.rt rfl rfl (by rfl)
theorem zl_fillBefell (x : Int32) : ∀ (s : (Nat → Int32)) (q : Option Value × zk_H), zk_T zk_mt zk_ex Ls xs zm_73 ((fun (s : (Nat → Int32)) => ((20, [(0, .ref 13), (1, .int x), (2, .int (nI (0 + 4))), (3, .int (Int32.ofNat 4))], []) : zk_F)) (zf (zl_fillLiesGG x) 4 0 s)) ((fun (s : (Nat → Int32)) => zH (zb v 13 s) w t) (zf (zl_fillLiesGG x) 4 0 s)) q → zk_T zk_mt zk_ex Ls xs zm_73 (5, [(0, .ref 13), (1, .int x), (2, .int (nI 0)), (3, .int (Int32.ofNat 4))], []) (zH (zb v 13 s) w t) q := by
  intro s q hk
  refine zk_forK (M := zm_73) (fun j (s : (Nat → Int32)) => (5, [(0, .ref 13), (1, .int x), (2, .int (nI j)), (3, .int (Int32.ofNat 4))], [])) (fun _ (s : (Nat → Int32)) => zH (zb v 13 s) w t) (zl_fillLiesGG x) (fun _ _ => True) (fun (s : (Nat → Int32)) => (20, [(0, .ref 13), (1, .int x), (2, .int (nI (0 + 4))), (3, .int (Int32.ofNat 4))], [])) (fun (s : (Nat → Int32)) => zH (zb v 13 s) w t) (4) 0 s (fun _ _ _ _ _ => trivial) (fun j s hj1 hj2 hp q hk => ?_) (fun s hp q hk => ?_) ?_ q hk
  · have hz := True.intro
    obtain ⟨f, rfl⟩ : ∃ z, z = s := ⟨_, rfl⟩
    show zk_T zk_mt zk_ex Ls xs zm_73 (5, [(0, .ref 13), (1, .int x), (2, .int (nI j)), (3, .int (Int32.ofNat 4))], []) (zH (zb v 13 f) w t) q
    refine zk_T.adv 2 (f' := (7, [(0, .ref 13), (1, .int x), (2, .int (nI j)), (3, .int (Int32.ofNat 4))], [.int (Int32.ofNat 4), .int (nI j)])) (h' := zH (zb v 13 f) w t) rfl ?_
    refine zk_T.br (f1 := (20, [(0, .ref 13), (1, .int x), (2, .int (nI j)), (3, .int (Int32.ofNat 4))], [])) (f2 := (10, [(0, .ref 13), (1, .int x), (2, .int (nI j)), (3, .int (Int32.ofNat 4))], [])) rfl (fun c1 => absurd (of_decide_eq_true c1) (show ¬ Int32.ofNat 4 ≤ nI j from nI_ge (b := 4) (show j < 4 by omega) (by decide))) (fun c1 => ?_)
    refine zk_T.adv 3 (f' := (13, [(0, .ref 13), (1, .int x), (2, .int (nI j)), (3, .int (Int32.ofNat 4))], [.int x, .int (nI j), .ref 13])) (h' := zH (zb v 13 f) w t) rfl ?_
    refine zk_T.ob (f' := (14, [(0, .ref 13), (1, .int x), (2, .int (nI j)), (3, .int (Int32.ofNat 4))], [])) (h' := zH (zb v 13 (upd f (nI j).toNatClampNeg x)) w t) rfl (by first | exact zk_inN (by omega) (by decide) | decide) ?_
    rw [nI_clamp (show j < 2 ^ 31 by omega)]
    refine zk_T.adv 2 (f' := (5, [(0, .ref 13), (1, .int x), (2, .int ((nI j) + 1)), (3, .int (Int32.ofNat 4))], [])) (h' := zH (zb v 13 (upd f j x)) w t) rfl ?_
    rw [nI_1]
    simp only [zl_fillLiesGG] at hk
    exact hk
  · have hz := True.intro
    obtain ⟨f, rfl⟩ : ∃ z, z = s := ⟨_, rfl⟩
    show zk_T zk_mt zk_ex Ls xs zm_73 (5, [(0, .ref 13), (1, .int x), (2, .int (nI (0 + 4))), (3, .int (Int32.ofNat 4))], []) (zH (zb v 13 f) w t) q
    refine zk_T.adv 2 (f' := (7, [(0, .ref 13), (1, .int x), (2, .int (nI (0 + 4))), (3, .int (Int32.ofNat 4))], [.int (Int32.ofNat 4), .int (nI (0 + 4))])) (h' := zH (zb v 13 f) w t) rfl ?_
    refine zk_T.br (f1 := (20, [(0, .ref 13), (1, .int x), (2, .int (nI (0 + 4))), (3, .int (Int32.ofNat 4))], [])) (f2 := (10, [(0, .ref 13), (1, .int x), (2, .int (nI (0 + 4))), (3, .int (Int32.ofNat 4))], [])) rfl (fun c1 => ?_) (fun c1 => absurd (by decide) (of_decide_eq_false c1))
    exact hk
  · exact trivial
/-- java/util/Arrays.fill -/
theorem zs_fillBefell (x : Int32) : zk_Cr zk_mt zk_ex Ls xs 73 [.ref 13, .int x] (zH v w t) (none, zH (zb v 13 (zf (zl_fillLiesGG x) 4 0 (v 13))) w t) := by
  refine zk_Cr.of (K := zm_73) rfl rfl rfl ?_
  show zk_T zk_mt zk_ex Ls xs zm_73 (0, [(0, .ref 13), (1, .int x)], []) (zH v w t) _
  refine zk_T.adv 5 (f' := (5, [(0, .ref 13), (1, .int x), (2, .int 0), (3, .int (Int32.ofNat 4))], [])) (h' := zH v w t) rfl ?_
  refine zl_fillBefell (v := v) x (v 13) _ ?_
  show zk_T zk_mt zk_ex Ls xs zm_73 (20, [(0, .ref 13), (1, .int x), (2, .int (nI (0 + 4))), (3, .int (Int32.ofNat 4))], []) (zH (zb v 13 (zf (zl_fillLiesGG x) 4 0 (v 13))) w t) _
  exact zk_T.rt rfl rfl (by rfl)
/-- BasketKeep$Level.clear -/
theorem zs_clear  : zk_Cr zk_mt zk_ex Ls xs 87 [.ref 4] (zH v w t) (none, zH (zb (zb (zb v 4 (upd (upd (upd (upd (upd (upd (v 4) 0 0) 1 0) 4 0) 8 0) 13 0) 14 0)) 12 (zf (zl_fillLiesGG (-2)) 4 0 (v 12))) 13 (zf (zl_fillLiesGG 0) 4 0 (v 13))) w t) := by
  refine zk_Cr.of (K := zm_87) rfl rfl rfl ?_
  show zk_T zk_mt zk_ex Ls xs zm_87 (0, [(0, .ref 4)], []) (zH v w t) _
  refine zk_T.adv 21 (f' := (36, [(0, .ref 4)], [.int (-2), .ref 12])) (h' := zH (zb v 4 (upd (upd (upd (upd (upd (upd (v 4) 0 0) 1 0) 4 0) 8 0) 13 0) 14 0)) w t) rfl ?_
  refine zk_T.cl (v := none) (h' := zH (zb (zb v 4 (upd (upd (upd (upd (upd (upd (v 4) 0 0) 1 0) 4 0) 8 0) 13 0) 14 0)) 12 (zf (zl_fillLiesGG (-2)) 4 0 (v 12))) w t) rfl (zs_fillLies (v := (zb v 4 (upd (upd (upd (upd (upd (upd (v 4) 0 0) 1 0) 4 0) 8 0) 13 0) 14 0))) (-2)) ?_
  show zk_T zk_mt zk_ex Ls xs zm_87 (39, [(0, .ref 4)], []) (zH (zb (zb v 4 (upd (upd (upd (upd (upd (upd (v 4) 0 0) 1 0) 4 0) 8 0) 13 0) 14 0)) 12 (zf (zl_fillLiesGG (-2)) 4 0 (v 12))) w t) _
  refine zk_T.adv 3 (f' := (44, [(0, .ref 4)], [.int 0, .ref 13])) (h' := zH (zb (zb v 4 (upd (upd (upd (upd (upd (upd (v 4) 0 0) 1 0) 4 0) 8 0) 13 0) 14 0)) 12 (zf (zl_fillLiesGG (-2)) 4 0 (v 12))) w t) rfl ?_
  refine zk_T.cl (v := none) (h' := zH (zb (zb (zb v 4 (upd (upd (upd (upd (upd (upd (v 4) 0 0) 1 0) 4 0) 8 0) 13 0) 14 0)) 12 (zf (zl_fillLiesGG (-2)) 4 0 (v 12))) 13 (zf (zl_fillLiesGG 0) 4 0 (v 13))) w t) rfl (zs_fillBefell (v := (zb (zb v 4 (upd (upd (upd (upd (upd (upd (v 4) 0 0) 1 0) 4 0) 8 0) 13 0) 14 0)) 12 (zf (zl_fillLiesGG (-2)) 4 0 (v 12)))) 0) ?_
  show zk_T zk_mt zk_ex Ls xs zm_87 (47, [(0, .ref 4)], []) (zH (zb (zb (zb v 4 (upd (upd (upd (upd (upd (upd (v 4) 0 0) 1 0) 4 0) 8 0) 13 0) 14 0)) 12 (zf (zl_fillLiesGG (-2)) 4 0 (v 12))) 13 (zf (zl_fillLiesGG 0) 4 0 (v 13))) w t) _
  exact zk_T.rt rfl rfl (by rfl)
end Z44
