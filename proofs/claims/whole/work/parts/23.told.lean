/-! contracts: told (20), states (32 now, 36 tried, 60 start) -/
section Z23
variable {Ls : Nat} {xs : Nat → Int32} {v : Nat → Nat → Int32} {w : Nat → Nat → Int64} {t : zk_H}
def zl_strikingInG (v : Nat → Nat → Int32) (year : Int32) (j : Nat) (s : Int32) : Int32 := match s with
  | a => if year < (v 22 j) then a else (if (v 21 j) ≤ 0 then a else (if ((year - (v 22 j)) - (year - (v 22 j)) / (v 21 j) * (v 21 j)) = 0 then a ||| (1 <<< ((nI j) &&& 31)) else a))
theorem zl_strikingIn (D : Nat) (hD : v 20 1 = nI D) (h8 : D ≤ 8) (year : Int32) : ∀ (s : Int32) (q : Option Value × zk_H), zk_T zk_mt zk_ex Ls xs zm_21 ((fun (s : Int32) => ((61, [(0, .ref 20), (1, .int year), (2, .int s), (3, .int (nI (0 + D)))], []) : zk_F)) (zf (zl_strikingInG v year) D 0 s)) ((fun (s : Int32) => zH v w t) (zf (zl_strikingInG v year) D 0 s)) q → zk_T zk_mt zk_ex Ls xs zm_21 (4, [(0, .ref 20), (1, .int year), (2, .int s), (3, .int (nI 0))], []) (zH v w t) q := by
  intro s q hk
  refine zk_forK (M := zm_21) (fun j (s : Int32) => (4, [(0, .ref 20), (1, .int year), (2, .int s), (3, .int (nI j))], [])) (fun _ (s : Int32) => zH v w t) (zl_strikingInG v year) (fun _ _ => True) (fun (s : Int32) => (61, [(0, .ref 20), (1, .int year), (2, .int s), (3, .int (nI (0 + D)))], [])) (fun (s : Int32) => zH v w t) (D) 0 s (fun _ _ _ _ _ => trivial) (fun j s hj1 hj2 hp q hk => ?_) (fun s hp q hk => ?_) ?_ q hk
  · have hz := True.intro
    obtain ⟨a, rfl⟩ : ∃ z, z = s := ⟨_, rfl⟩
    show zk_T zk_mt zk_ex Ls xs zm_21 (4, [(0, .ref 20), (1, .int year), (2, .int a), (3, .int (nI j))], []) (zH v w t) q
    refine zk_T.adv 3 (f' := (9, [(0, .ref 20), (1, .int year), (2, .int a), (3, .int (nI j))], [.int (v 20 1), .int (nI j)])) (h' := zH v w t) rfl ?_
    refine zk_T.br (f1 := (61, [(0, .ref 20), (1, .int year), (2, .int a), (3, .int (nI j))], [])) (f2 := (12, [(0, .ref 20), (1, .int year), (2, .int a), (3, .int (nI j))], [])) rfl (fun c1 => absurd (of_decide_eq_true c1) (by rw [hD]; exact nI_ge (show j < D by omega) (by omega))) (fun c1 => ?_)
    refine zk_T.adv 3 (f' := (17, [(0, .ref 20), (1, .int year), (2, .int a), (3, .int (nI j))], [.int (nI j), .ref 21])) (h' := zH v w t) rfl ?_
    refine zk_T.ob (f' := (18, [(0, .ref 20), (1, .int year), (2, .int a), (3, .int (nI j))], [.int (v 21 (nI j).toNatClampNeg)])) (h' := zH v w t) rfl (by first | exact zk_inN (by omega) (by decide) | decide) ?_
    rw [nI_clamp (show j < 2 ^ 31 by omega)]
    refine zk_T.adv 5 (f' := (26, [(0, .ref 20), (1, .int year), (2, .int a), (3, .int (nI j)), (4, .int (v 21 j))], [.int (nI j), .ref 22, .int year])) (h' := zH v w t) rfl ?_
    refine zk_T.ob (f' := (27, [(0, .ref 20), (1, .int year), (2, .int a), (3, .int (nI j)), (4, .int (v 21 j))], [.int (v 22 (nI j).toNatClampNeg), .int year])) (h' := zH v w t) rfl (by first | exact zk_inN (by omega) (by decide) | decide) ?_
    rw [nI_clamp (show j < 2 ^ 31 by omega)]
    refine zk_T.br (f1 := (55, [(0, .ref 20), (1, .int year), (2, .int a), (3, .int (nI j)), (4, .int (v 21 j))], [])) (f2 := (30, [(0, .ref 20), (1, .int year), (2, .int a), (3, .int (nI j)), (4, .int (v 21 j))], [])) rfl (fun c2 => ?_) (fun c2 => ?_)
    · have c2 : year < (v 22 j) := of_decide_eq_true c2
      refine zk_T.adv 2 (f' := (4, [(0, .ref 20), (1, .int year), (2, .int a), (3, .int ((nI j) + 1))], [])) (h' := zH v w t) rfl ?_
      rw [nI_1]
      simp only [zl_strikingInG, if_pos c2] at hk
      exact hk
    · have c2 : ¬ (year < (v 22 j)) := of_decide_eq_false c2
      refine zk_T.adv 1 (f' := (32, [(0, .ref 20), (1, .int year), (2, .int a), (3, .int (nI j)), (4, .int (v 21 j))], [.int (v 21 j)])) (h' := zH v w t) rfl ?_
      refine zk_T.br (f1 := (55, [(0, .ref 20), (1, .int year), (2, .int a), (3, .int (nI j)), (4, .int (v 21 j))], [])) (f2 := (35, [(0, .ref 20), (1, .int year), (2, .int a), (3, .int (nI j)), (4, .int (v 21 j))], [])) rfl (fun c3 => ?_) (fun c3 => ?_)
      · have c3 : (v 21 j) ≤ 0 := of_decide_eq_true c3
        refine zk_T.adv 2 (f' := (4, [(0, .ref 20), (1, .int year), (2, .int a), (3, .int ((nI j) + 1))], [])) (h' := zH v w t) rfl ?_
        rw [nI_1]
        simp only [zl_strikingInG, if_neg c2, if_pos c3] at hk
        exact hk
      · have c3 : ¬ ((v 21 j) ≤ 0) := of_decide_eq_false c3
        refine zk_T.adv 4 (f' := (41, [(0, .ref 20), (1, .int year), (2, .int a), (3, .int (nI j)), (4, .int (v 21 j))], [.int (nI j), .ref 22, .int year])) (h' := zH v w t) rfl ?_
        refine zk_T.ob (f' := (42, [(0, .ref 20), (1, .int year), (2, .int a), (3, .int (nI j)), (4, .int (v 21 j))], [.int (v 22 (nI j).toNatClampNeg), .int year])) (h' := zH v w t) rfl (by first | exact zk_inN (by omega) (by decide) | decide) ?_
        rw [nI_clamp (show j < 2 ^ 31 by omega)]
        refine zk_T.adv 2 (f' := (45, [(0, .ref 20), (1, .int year), (2, .int a), (3, .int (nI j)), (4, .int (v 21 j))], [.int (v 21 j), .int (year - (v 22 j))])) (h' := zH v w t) rfl ?_
        refine zk_T.ob (f' := (46, [(0, .ref 20), (1, .int year), (2, .int a), (3, .int (nI j)), (4, .int (v 21 j))], [.int ((year - (v 22 j)) - (year - (v 22 j)) / (v 21 j) * (v 21 j))])) (h' := zH v w t) rfl (decide_eq_true (fun z => by rw [z] at c3; exact absurd (Int32.le_refl 0) c3)) ?_
        refine zk_T.br (f1 := (49, [(0, .ref 20), (1, .int year), (2, .int a), (3, .int (nI j)), (4, .int (v 21 j))], [])) (f2 := (55, [(0, .ref 20), (1, .int year), (2, .int a), (3, .int (nI j)), (4, .int (v 21 j))], [])) rfl (fun c4 => ?_) (fun c4 => ?_)
        · have c4 : ((year - (v 22 j)) - (year - (v 22 j)) / (v 21 j) * (v 21 j)) = 0 := of_decide_eq_true c4
          refine zk_T.adv 8 (f' := (4, [(0, .ref 20), (1, .int year), (2, .int (a ||| (1 <<< ((nI j) &&& 31)))), (3, .int ((nI j) + 1))], [])) (h' := zH v w t) rfl ?_
          rw [nI_1]
          simp only [zl_strikingInG, if_neg c2, if_neg c3, if_pos c4] at hk
          exact hk
        · have c4 : ¬ (((year - (v 22 j)) - (year - (v 22 j)) / (v 21 j) * (v 21 j)) = 0) := of_decide_eq_false c4
          refine zk_T.adv 2 (f' := (4, [(0, .ref 20), (1, .int year), (2, .int a), (3, .int ((nI j) + 1))], [])) (h' := zH v w t) rfl ?_
          rw [nI_1]
          simp only [zl_strikingInG, if_neg c2, if_neg c3, if_neg c4] at hk
          exact hk
  · have hz := True.intro
    obtain ⟨a, rfl⟩ : ∃ z, z = s := ⟨_, rfl⟩
    show zk_T zk_mt zk_ex Ls xs zm_21 (4, [(0, .ref 20), (1, .int year), (2, .int a), (3, .int (nI (0 + D)))], []) (zH v w t) q
    refine zk_T.adv 3 (f' := (9, [(0, .ref 20), (1, .int year), (2, .int a), (3, .int (nI (0 + D)))], [.int (v 20 1), .int (nI (0 + D))])) (h' := zH v w t) rfl ?_
    refine zk_T.br (f1 := (61, [(0, .ref 20), (1, .int year), (2, .int a), (3, .int (nI (0 + D)))], [])) (f2 := (12, [(0, .ref 20), (1, .int year), (2, .int a), (3, .int (nI (0 + D)))], [])) rfl (fun c1 => ?_) (fun c1 => absurd (by rw [hD, Nat.zero_add]; exact nI_le (Nat.le_refl D) (by omega)) (of_decide_eq_false c1))
    exact hk
  · exact trivial
def zsk (v : Nat → Nat → Int32) (D : Nat) (year : Int32) : Int32 := zf (zl_strikingInG v year) D 0 0
/-- BasketKeep$Level.strikingIn -/
theorem zs_strikingIn (D : Nat) (hD : v 20 1 = nI D) (h8 : D ≤ 8) (year : Int32) : zk_Cr zk_mt zk_ex Ls xs 21 [.ref 20, .int year] (zH v w t) ((some (.int (zsk v D year)), zH v w t)) := by
  refine zk_Cr.of (K := zm_21) rfl rfl rfl ?_
  show zk_T zk_mt zk_ex Ls xs zm_21 (0, [(0, .ref 20), (1, .int year)], []) (zH v w t) _
  refine zk_T.adv 4 (f' := (4, [(0, .ref 20), (1, .int year), (2, .int 0), (3, .int 0)], [])) (h' := zH v w t) rfl ?_
  refine zl_strikingIn D hD h8 year 0 _ ?_
  refine zk_T.adv 1 (f' := (62, [(0, .ref 20), (1, .int year), (2, .int (zsk v D year)), (3, .int (nI (0 + D)))], [.int (zsk v D year)])) (h' := zH v w t) rfl ?_
  exact zk_T.rt rfl rfl rfl
/-- BasketKeep$State.isLost -/
theorem zs_isLost_now (g : Int32) : zk_Cr zk_mt zk_ex Ls xs 25 [.ref 32, .int g] (zH v w t) ((some (.int (if (((v 32 1) >>> (g &&& 31)) &&& 1) = 0 then 0 else 1)), zH v w t)) := by
  refine zk_Cr.of (K := zm_25) rfl rfl rfl ?_
  show zk_T zk_mt zk_ex Ls xs zm_25 (0, [(0, .ref 32), (1, .int g)], []) (zH v w t) _
  refine zk_T.adv 6 (f' := (8, [(0, .ref 32), (1, .int g)], [.int (((v 32 1) >>> (g &&& 31)) &&& 1)])) (h' := zH v w t) rfl ?_
  refine zk_T.br (f1 := (15, [(0, .ref 32), (1, .int g)], [])) (f2 := (11, [(0, .ref 32), (1, .int g)], [])) rfl (fun c1 => ?_) (fun c1 => ?_)
  · have c1 : (((v 32 1) >>> (g &&& 31)) &&& 1) = 0 := of_decide_eq_true c1
    refine zk_T.adv 1 (f' := (16, [(0, .ref 32), (1, .int g)], [.int 0])) (h' := zH v w t) rfl ?_
    exact zk_T.rt rfl rfl (by simp only [if_pos c1])
  · have c1 : ¬ ((((v 32 1) >>> (g &&& 31)) &&& 1) = 0) := of_decide_eq_false c1
    refine zk_T.adv 2 (f' := (16, [(0, .ref 32), (1, .int g)], [.int 1])) (h' := zH v w t) rfl ?_
    exact zk_T.rt rfl rfl (by simp only [if_neg c1])
/-- BasketKeep$State.isLost -/
theorem zs_isLost_tried (g : Int32) : zk_Cr zk_mt zk_ex Ls xs 25 [.ref 36, .int g] (zH v w t) ((some (.int (if (((v 36 1) >>> (g &&& 31)) &&& 1) = 0 then 0 else 1)), zH v w t)) := by
  refine zk_Cr.of (K := zm_25) rfl rfl rfl ?_
  show zk_T zk_mt zk_ex Ls xs zm_25 (0, [(0, .ref 36), (1, .int g)], []) (zH v w t) _
  refine zk_T.adv 6 (f' := (8, [(0, .ref 36), (1, .int g)], [.int (((v 36 1) >>> (g &&& 31)) &&& 1)])) (h' := zH v w t) rfl ?_
  refine zk_T.br (f1 := (15, [(0, .ref 36), (1, .int g)], [])) (f2 := (11, [(0, .ref 36), (1, .int g)], [])) rfl (fun c1 => ?_) (fun c1 => ?_)
  · have c1 : (((v 36 1) >>> (g &&& 31)) &&& 1) = 0 := of_decide_eq_true c1
    refine zk_T.adv 1 (f' := (16, [(0, .ref 36), (1, .int g)], [.int 0])) (h' := zH v w t) rfl ?_
    exact zk_T.rt rfl rfl (by simp only [if_pos c1])
  · have c1 : ¬ ((((v 36 1) >>> (g &&& 31)) &&& 1) = 0) := of_decide_eq_false c1
    refine zk_T.adv 2 (f' := (16, [(0, .ref 36), (1, .int g)], [.int 1])) (h' := zH v w t) rfl ?_
    exact zk_T.rt rfl rfl (by simp only [if_neg c1])
/-- BasketKeep$State.isLost -/
theorem zs_isLost_start (g : Int32) : zk_Cr zk_mt zk_ex Ls xs 25 [.ref 60, .int g] (zH v w t) ((some (.int (if (((v 60 1) >>> (g &&& 31)) &&& 1) = 0 then 0 else 1)), zH v w t)) := by
  refine zk_Cr.of (K := zm_25) rfl rfl rfl ?_
  show zk_T zk_mt zk_ex Ls xs zm_25 (0, [(0, .ref 60), (1, .int g)], []) (zH v w t) _
  refine zk_T.adv 6 (f' := (8, [(0, .ref 60), (1, .int g)], [.int (((v 60 1) >>> (g &&& 31)) &&& 1)])) (h' := zH v w t) rfl ?_
  refine zk_T.br (f1 := (15, [(0, .ref 60), (1, .int g)], [])) (f2 := (11, [(0, .ref 60), (1, .int g)], [])) rfl (fun c1 => ?_) (fun c1 => ?_)
  · have c1 : (((v 60 1) >>> (g &&& 31)) &&& 1) = 0 := of_decide_eq_true c1
    refine zk_T.adv 1 (f' := (16, [(0, .ref 60), (1, .int g)], [.int 0])) (h' := zH v w t) rfl ?_
    exact zk_T.rt rfl rfl (by simp only [if_pos c1])
  · have c1 : ¬ ((((v 60 1) >>> (g &&& 31)) &&& 1) = 0) := of_decide_eq_false c1
    refine zk_T.adv 2 (f' := (16, [(0, .ref 60), (1, .int g)], [.int 1])) (h' := zH v w t) rfl ?_
    exact zk_T.rt rfl rfl (by simp only [if_neg c1])
end Z23
