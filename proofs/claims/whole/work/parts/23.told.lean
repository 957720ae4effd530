/-! contracts: told (20), states (32 now, 36 tried, 60 start) -/
section Z23
variable {Ls : Nat} {xs : Nat → Int32} {v : Nat → Nat → Int32} {w : Nat → Nat → Int64} {t : zk_H}
def zl_strikingInG (ev fr : Nat → Int32) (year : Int32) (j : Nat) (s : Int32) : Int32 := match s with
  | a => if year < (fr j) then a else (if (ev j) ≤ 0 then a else (if ((year - (fr j)) - (year - (fr j)) / (ev j) * (ev j)) = 0 then a ||| ((1 : Int32) <<< ((nI j) &&& 31)) else a))
theorem zl_strikingIn (D : Nat) (hD : v 20 1 = nI D) (h8 : D ≤ 8) (year : Int32) : ∀ (s : Int32) (q : Option Value × zk_H), zk_T zk_mt zk_ex Ls xs zm_21 ((fun (s : Int32) => ((61, [(0, .ref 20), (1, .int year), (2, .int s), (3, .int (nI (0 + D)))], []) : zk_F)) (zf (zl_strikingInG (v 21) (v 22) year) D 0 s)) ((fun (s : Int32) => zH v w t) (zf (zl_strikingInG (v 21) (v 22) year) D 0 s)) q → zk_T zk_mt zk_ex Ls xs zm_21 (4, [(0, .ref 20), (1, .int year), (2, .int s), (3, .int (nI 0))], []) (zH v w t) q := by
  intro s q hk
  refine zk_forK (M := zm_21) (fun j (s : Int32) => (4, [(0, .ref 20), (1, .int year), (2, .int s), (3, .int (nI j))], [])) (fun _ (s : Int32) => zH v w t) (zl_strikingInG (v 21) (v 22) year) (fun _ _ => True) (fun (s : Int32) => (61, [(0, .ref 20), (1, .int year), (2, .int s), (3, .int (nI (0 + D)))], [])) (fun (s : Int32) => zH v w t) (D) 0 s (fun _ _ _ _ _ => trivial) (fun j s hj1 hj2 hp q hk => ?_) (fun s hp q hk => ?_) ?_ q hk
  · have hz := True.intro
    obtain ⟨a, rfl⟩ : ∃ z, z = s := ⟨_, rfl⟩
    show zk_T zk_mt zk_ex Ls xs zm_21 (4, [(0, .ref 20), (1, .int year), (2, .int a), (3, .int (nI j))], []) (zH v w t) q
    refine zk_T.adv 3 (f' := (9, [(0, .ref 20), (1, .int year), (2, .int a), (3, .int (nI j))], [.int (v 20 1), .int (nI j)])) (h' := zH v w t) rfl ?_
    refine zk_T.br (f1 := (61, [(0, .ref 20), (1, .int year), (2, .int a), (3, .int (nI j))], [])) (f2 := (12, [(0, .ref 20), (1, .int year), (2, .int a), (3, .int (nI j))], [])) rfl (fun c1 => absurd (of_decide_eq_true c1) (by rw [hD]; exact nI_ge (show j < D by omega) (by omega))) (fun c1 => ?_)
    refine zk_T.adv 3 (f' := (17, [(0, .ref 20), (1, .int year), (2, .int a), (3, .int (nI j))], [.int (nI j), .ref 21])) (h' := zH v w t) rfl ?_
    refine zk_T.ob (f' := (18, [(0, .ref 20), (1, .int year), (2, .int a), (3, .int (nI j))], [.int (v 21 (nI j).toNatClampNeg)])) (h' := zH v w t) rfl (by first | exact zk_inN (by omega) (by decide) | decide) ?_
    rw [nI_clamp (show j < 2 ^ 31 by omega)]
    refine zk_T.adv 5 (f' := (26, [(0, .ref 20), (1, .int year), (2, .int a), (3, .int (nI j)), (4, .int (v 21 j))], [.int (nI j), .ref 22, .int year])) (h' := zH v w t) rfl ?_
    refine zk_T.ob (f' := (27, [(0, .ref 20), (1, .int year), (2, .int a), (3, .int (nI j)), (4, .int (v 21 j))], [.int (v 22 (nI j).toNatClampNeg), .int year])) (h' := zH v w t) rfl (by first | exact zk_inN (by omega) (by decide) | decide) ?_
    rw [nI_clamp (show j < 2 ^ 31 by omega)]
    refine zk_T.br (f1 := (55, [(0, .ref 20), (1, .int year), (2, .int a), (3, .int (nI j)), (4, .int (v 21 j))], [])) (f2 := (30, [(0, .ref 20), (1, .int year), (2, .int a), (3, .int (nI j)), (4, .int (v 21 j))], [])) rfl (fun c2 => ?_) (fun c2 => ?_)
    · have c2 : year < (v 22 j) := of_decide_eq_true c2
      refine zk_T.adv 2 (f' := (4, [(0, .ref 20), (1, .int year), (2, .int a), (3, .int ((nI j) + 1))], [])) (h' := zH v w t) rfl ?_
      rw [nI_1]
      simp only [zl_strikingInG, if_pos c2] at hk
      exact hk
    · have c2 : ¬ (year < (v 22 j)) := of_decide_eq_false c2
      refine zk_T.adv 1 (f' := (32, [(0, .ref 20), (1, .int year), (2, .int a), (3, .int (nI j)), (4, .int (v 21 j))], [.int (v 21 j)])) (h' := zH v w t) rfl ?_
      refine zk_T.br (f1 := (55, [(0, .ref 20), (1, .int year), (2, .int a), (3, .int (nI j)), (4, .int (v 21 j))], [])) (f2 := (35, [(0, .ref 20), (1, .int year), (2, .int a), (3, .int (nI j)), (4, .int (v 21 j))], [])) rfl (fun c3 => ?_) (fun c3 => ?_)
      · have c3 : (v 21 j) ≤ 0 := of_decide_eq_true c3
        refine zk_T.adv 2 (f' := (4, [(0, .ref 20), (1, .int year), (2, .int a), (3, .int ((nI j) + 1))], [])) (h' := zH v w t) rfl ?_
        rw [nI_1]
        simp only [zl_strikingInG, if_neg c2, if_pos c3] at hk
        exact hk
      · have c3 : ¬ ((v 21 j) ≤ 0) := of_decide_eq_false c3
        refine zk_T.adv 4 (f' := (41, [(0, .ref 20), (1, .int year), (2, .int a), (3, .int (nI j)), (4, .int (v 21 j))], [.int (nI j), .ref 22, .int year])) (h' := zH v w t) rfl ?_
        refine zk_T.ob (f' := (42, [(0, .ref 20), (1, .int year), (2, .int a), (3, .int (nI j)), (4, .int (v 21 j))], [.int (v 22 (nI j).toNatClampNeg), .int year])) (h' := zH v w t) rfl (by first | exact zk_inN (by omega) (by decide) | decide) ?_
        rw [nI_clamp (show j < 2 ^ 31 by omega)]
        refine zk_T.adv 2 (f' := (45, [(0, .ref 20), (1, .int year), (2, .int a), (3, .int (nI j)), (4, .int (v 21 j))], [.int (v 21 j), .int (year - (v 22 j))])) (h' := zH v w t) rfl ?_
        refine zk_T.ob (f' := (46, [(0, .ref 20), (1, .int year), (2, .int a), (3, .int (nI j)), (4, .int (v 21 j))], [.int ((year - (v 22 j)) - (year - (v 22 j)) / (v 21 j) * (v 21 j))])) (h' := zH v w t) rfl (decide_eq_true (fun z => by rw [z] at c3; exact absurd (Int32.le_refl 0) c3)) ?_
        refine zk_T.br (f1 := (49, [(0, .ref 20), (1, .int year), (2, .int a), (3, .int (nI j)), (4, .int (v 21 j))], [])) (f2 := (55, [(0, .ref 20), (1, .int year), (2, .int a), (3, .int (nI j)), (4, .int (v 21 j))], [])) rfl (fun c4 => ?_) (fun c4 => ?_)
        · have c4 : ((year - (v 22 j)) - (year - (v 22 j)) / (v 21 j) * (v 21 j)) = 0 := of_decide_eq_true c4
          refine zk_T.adv 8 (f' := (4, [(0, .ref 20), (1, .int year), (2, .int (a ||| ((1 : Int32) <<< ((nI j) &&& 31)))), (3, .int ((nI j) + 1))], [])) (h' := zH v w t) rfl ?_
          rw [nI_1]
          simp only [zl_strikingInG, if_neg c2, if_neg c3, if_pos c4] at hk
          exact hk
        · have c4 : ¬ (((year - (v 22 j)) - (year - (v 22 j)) / (v 21 j) * (v 21 j)) = 0) := of_decide_eq_false c4
          refine zk_T.adv 2 (f' := (4, [(0, .ref 20), (1, .int year), (2, .int a), (3, .int ((nI j) + 1))], [])) (h' := zH v w t) rfl ?_
          rw [nI_1]
          simp only [zl_strikingInG, if_neg c2, if_neg c3, if_neg c4] at hk
          exact hk
  · have hz := True.intro
    obtain ⟨a, rfl⟩ : ∃ z, z = s := ⟨_, rfl⟩
    show zk_T zk_mt zk_ex Ls xs zm_21 (4, [(0, .ref 20), (1, .int year), (2, .int a), (3, .int (nI (0 + D)))], []) (zH v w t) q
    refine zk_T.adv 3 (f' := (9, [(0, .ref 20), (1, .int year), (2, .int a), (3, .int (nI (0 + D)))], [.int (v 20 1), .int (nI (0 + D))])) (h' := zH v w t) rfl ?_
    refine zk_T.br (f1 := (61, [(0, .ref 20), (1, .int year), (2, .int a), (3, .int (nI (0 + D)))], [])) (f2 := (12, [(0, .ref 20), (1, .int year), (2, .int a), (3, .int (nI (0 + D)))], [])) rfl (fun c1 => ?_) (fun c1 => absurd (by rw [hD, Nat.zero_add]; exact nI_le (Nat.le_refl _) (by omega)) (of_decide_eq_false c1))
    exact hk
  · exact trivial
def zr_strikingIn (D : Nat) (ev fr : Nat → Int32) (year : Int32) : Int32 := (zf (zl_strikingInG (ev) (fr) year) D 0 0)
/-- BasketKeep$Level.strikingIn -/
theorem zs_strikingIn (D : Nat) (hD : v 20 1 = nI D) (h8 : D ≤ 8) (year : Int32) : zk_Cr zk_mt zk_ex Ls xs 21 [.ref 20, .int year] (zH v w t) (some (.int (zr_strikingIn D (v 21) (v 22) year)), zH v w t) := by
  refine zk_Cr.of (K := zm_21) rfl rfl rfl ?_
  show zk_T zk_mt zk_ex Ls xs zm_21 (0, [(0, .ref 20), (1, .int year)], []) (zH v w t) _
  refine zk_T.adv 4 (f' := (4, [(0, .ref 20), (1, .int year), (2, .int 0), (3, .int 0)], [])) (h' := zH v w t) rfl ?_
  refine zl_strikingIn D hD h8 year 0 _ ?_
  show zk_T zk_mt zk_ex Ls xs zm_21 (61, [(0, .ref 20), (1, .int year), (2, .int (zf (zl_strikingInG (v 21) (v 22) year) D 0 0)), (3, .int (nI (0 + D)))], []) (zH v w t) _
  refine zk_T.adv 1 (f' := (62, [(0, .ref 20), (1, .int year), (2, .int (zf (zl_strikingInG (v 21) (v 22) year) D 0 0)), (3, .int (nI (0 + D)))], [.int (zf (zl_strikingInG (v 21) (v 22) year) D 0 0)])) (h' := zH v w t) rfl ?_
  exact zk_T.rt rfl rfl (by rfl)
def zl_goodsFearingG (fe : Nat → Int32) (d : Int32) (j : Nat) (s : Int32) : Int32 := match s with
  | a => if (((fe j) >>> (d &&& 31)) &&& 1) = 0 then a else a ||| ((1 : Int32) <<< ((nI j) &&& 31))
theorem zl_goodsFearing (Gn : Nat) (hG : v 20 8 = nI Gn) (h4 : Gn ≤ 4) (d : Int32) : ∀ (s : Int32) (q : Option Value × zk_H), zk_T zk_mt zk_ex Ls xs zm_18 ((fun (s : Int32) => ((37, [(0, .ref 20), (1, .int d), (2, .int s), (3, .int (nI (0 + Gn)))], []) : zk_F)) (zf (zl_goodsFearingG (v 27) d) Gn 0 s)) ((fun (s : Int32) => zH v w t) (zf (zl_goodsFearingG (v 27) d) Gn 0 s)) q → zk_T zk_mt zk_ex Ls xs zm_18 (4, [(0, .ref 20), (1, .int d), (2, .int s), (3, .int (nI 0))], []) (zH v w t) q := by
  intro s q hk
  refine zk_forK (M := zm_18) (fun j (s : Int32) => (4, [(0, .ref 20), (1, .int d), (2, .int s), (3, .int (nI j))], [])) (fun _ (s : Int32) => zH v w t) (zl_goodsFearingG (v 27) d) (fun _ _ => True) (fun (s : Int32) => (37, [(0, .ref 20), (1, .int d), (2, .int s), (3, .int (nI (0 + Gn)))], [])) (fun (s : Int32) => zH v w t) (Gn) 0 s (fun _ _ _ _ _ => trivial) (fun j s hj1 hj2 hp q hk => ?_) (fun s hp q hk => ?_) ?_ q hk
  · have hz := True.intro
    obtain ⟨a, rfl⟩ : ∃ z, z = s := ⟨_, rfl⟩
    show zk_T zk_mt zk_ex Ls xs zm_18 (4, [(0, .ref 20), (1, .int d), (2, .int a), (3, .int (nI j))], []) (zH v w t) q
    refine zk_T.adv 3 (f' := (9, [(0, .ref 20), (1, .int d), (2, .int a), (3, .int (nI j))], [.int (v 20 8), .int (nI j)])) (h' := zH v w t) rfl ?_
    refine zk_T.br (f1 := (37, [(0, .ref 20), (1, .int d), (2, .int a), (3, .int (nI j))], [])) (f2 := (12, [(0, .ref 20), (1, .int d), (2, .int a), (3, .int (nI j))], [])) rfl (fun c1 => absurd (of_decide_eq_true c1) (by rw [hG]; exact nI_ge (show j < Gn by omega) (by omega))) (fun c1 => ?_)
    refine zk_T.adv 3 (f' := (17, [(0, .ref 20), (1, .int d), (2, .int a), (3, .int (nI j))], [.int (nI j), .ref 27])) (h' := zH v w t) rfl ?_
    refine zk_T.ob (f' := (18, [(0, .ref 20), (1, .int d), (2, .int a), (3, .int (nI j))], [.int (v 27 (nI j).toNatClampNeg)])) (h' := zH v w t) rfl (by first | exact zk_inN (by omega) (by decide) | decide) ?_
    rw [nI_clamp (show j < 2 ^ 31 by omega)]
    refine zk_T.adv 4 (f' := (22, [(0, .ref 20), (1, .int d), (2, .int a), (3, .int (nI j))], [.int (((v 27 j) >>> (d &&& 31)) &&& 1)])) (h' := zH v w t) rfl ?_
    refine zk_T.br (f1 := (31, [(0, .ref 20), (1, .int d), (2, .int a), (3, .int (nI j))], [])) (f2 := (25, [(0, .ref 20), (1, .int d), (2, .int a), (3, .int (nI j))], [])) rfl (fun c2 => ?_) (fun c2 => ?_)
    · have c2 : (((v 27 j) >>> (d &&& 31)) &&& 1) = 0 := of_decide_eq_true c2
      refine zk_T.adv 2 (f' := (4, [(0, .ref 20), (1, .int d), (2, .int a), (3, .int ((nI j) + 1))], [])) (h' := zH v w t) rfl ?_
      rw [nI_1]
      simp only [zl_goodsFearingG, if_pos c2] at hk
      exact hk
    · have c2 : ¬ ((((v 27 j) >>> (d &&& 31)) &&& 1) = 0) := of_decide_eq_false c2
      refine zk_T.adv 8 (f' := (4, [(0, .ref 20), (1, .int d), (2, .int (a ||| ((1 : Int32) <<< ((nI j) &&& 31)))), (3, .int ((nI j) + 1))], [])) (h' := zH v w t) rfl ?_
      rw [nI_1]
      simp only [zl_goodsFearingG, if_neg c2] at hk
      exact hk
  · have hz := True.intro
    obtain ⟨a, rfl⟩ : ∃ z, z = s := ⟨_, rfl⟩
    show zk_T zk_mt zk_ex Ls xs zm_18 (4, [(0, .ref 20), (1, .int d), (2, .int a), (3, .int (nI (0 + Gn)))], []) (zH v w t) q
    refine zk_T.adv 3 (f' := (9, [(0, .ref 20), (1, .int d), (2, .int a), (3, .int (nI (0 + Gn)))], [.int (v 20 8), .int (nI (0 + Gn))])) (h' := zH v w t) rfl ?_
    refine zk_T.br (f1 := (37, [(0, .ref 20), (1, .int d), (2, .int a), (3, .int (nI (0 + Gn)))], [])) (f2 := (12, [(0, .ref 20), (1, .int d), (2, .int a), (3, .int (nI (0 + Gn)))], [])) rfl (fun c1 => ?_) (fun c1 => absurd (by rw [hG, Nat.zero_add]; exact nI_le (Nat.le_refl _) (by omega)) (of_decide_eq_false c1))
    exact hk
  · exact trivial
def zr_goodsFearing (Gn : Nat) (fe : Nat → Int32) (d : Int32) : Int32 := (zf (zl_goodsFearingG (fe) d) Gn 0 0)
/-- BasketKeep$Level.goodsFearing -/
theorem zs_goodsFearing (Gn : Nat) (hG : v 20 8 = nI Gn) (h4 : Gn ≤ 4) (d : Int32) : zk_Cr zk_mt zk_ex Ls xs 18 [.ref 20, .int d] (zH v w t) (some (.int (zr_goodsFearing Gn (v 27) d)), zH v w t) := by
  refine zk_Cr.of (K := zm_18) rfl rfl rfl ?_
  show zk_T zk_mt zk_ex Ls xs zm_18 (0, [(0, .ref 20), (1, .int d)], []) (zH v w t) _
  refine zk_T.adv 4 (f' := (4, [(0, .ref 20), (1, .int d), (2, .int 0), (3, .int 0)], [])) (h' := zH v w t) rfl ?_
  refine zl_goodsFearing Gn hG h4 d 0 _ ?_
  show zk_T zk_mt zk_ex Ls xs zm_18 (37, [(0, .ref 20), (1, .int d), (2, .int (zf (zl_goodsFearingG (v 27) d) Gn 0 0)), (3, .int (nI (0 + Gn)))], []) (zH v w t) _
  refine zk_T.adv 1 (f' := (38, [(0, .ref 20), (1, .int d), (2, .int (zf (zl_goodsFearingG (v 27) d) Gn 0 0)), (3, .int (nI (0 + Gn)))], [.int (zf (zl_goodsFearingG (v 27) d) Gn 0 0)])) (h' := zH v w t) rfl ?_
  exact zk_T.rt rfl rfl (by rfl)
def zr_firstStrike (ev fr : Nat → Int32) (e : Nat) (year : Int32) : Int32 := if year < (fr e) then (fr e) else (if 0 < (ev e) then ((fr e) + ((((year - (fr e)) / (ev e)) + 1) * (ev e))) else (fr e))
/-- BasketKeep$Level.firstStrikeBehind -/
theorem zs_firstStrike (e : Nat) (he : e < 8) (year : Int32) : zk_Cr zk_mt zk_ex Ls xs 17 [.ref 20, .int (nI e), .int year] (zH v w t) (some (.int (zr_firstStrike (v 21) (v 22) e year)), zH v w t) := by
  refine zk_Cr.of (K := zm_17) rfl rfl rfl ?_
  show zk_T zk_mt zk_ex Ls xs zm_17 (0, [(0, .ref 20), (1, .int (nI e)), (2, .int year)], []) (zH v w t) _
  refine zk_T.adv 3 (f' := (5, [(0, .ref 20), (1, .int (nI e)), (2, .int year)], [.int (nI e), .ref 21])) (h' := zH v w t) rfl ?_
  refine zk_T.ob (f' := (6, [(0, .ref 20), (1, .int (nI e)), (2, .int year)], [.int (v 21 (nI e).toNatClampNeg)])) (h' := zH v w t) rfl (by first | exact zk_inN (by omega) (by decide) | decide) ?_
  rw [nI_clamp (show e < 2 ^ 31 by omega)]
  refine zk_T.adv 4 (f' := (12, [(0, .ref 20), (1, .int (nI e)), (2, .int year), (3, .int (v 21 e))], [.int (nI e), .ref 22])) (h' := zH v w t) rfl ?_
  refine zk_T.ob (f' := (13, [(0, .ref 20), (1, .int (nI e)), (2, .int year), (3, .int (v 21 e))], [.int (v 22 (nI e).toNatClampNeg)])) (h' := zH v w t) rfl (by first | exact zk_inN (by omega) (by decide) | decide) ?_
  rw [nI_clamp (show e < 2 ^ 31 by omega)]
  refine zk_T.adv 1 (f' := (14, [(0, .ref 20), (1, .int (nI e)), (2, .int year), (3, .int (v 21 e))], [.int year, .int (v 22 e)])) (h' := zH v w t) rfl ?_
  refine zk_T.br (f1 := (21, [(0, .ref 20), (1, .int (nI e)), (2, .int year), (3, .int (v 21 e))], [])) (f2 := (17, [(0, .ref 20), (1, .int (nI e)), (2, .int year), (3, .int (v 21 e))], [])) rfl (fun c1 => ?_) (fun c1 => ?_)
  · have c1 : year < (v 22 e) := of_decide_eq_true c1
    refine zk_T.adv 3 (f' := (26, [(0, .ref 20), (1, .int (nI e)), (2, .int year), (3, .int (v 21 e))], [.int (nI e), .ref 22])) (h' := zH v w t) rfl ?_
    refine zk_T.ob (f' := (27, [(0, .ref 20), (1, .int (nI e)), (2, .int year), (3, .int (v 21 e))], [.int (v 22 (nI e).toNatClampNeg)])) (h' := zH v w t) rfl (by first | exact zk_inN (by omega) (by decide) | decide) ?_
    rw [nI_clamp (show e < 2 ^ 31 by omega)]
    exact zk_T.rt rfl rfl (by simp only [zr_firstStrike, if_pos c1])
  · have c1 : ¬ (year < (v 22 e)) := of_decide_eq_false c1
    refine zk_T.adv 1 (f' := (18, [(0, .ref 20), (1, .int (nI e)), (2, .int year), (3, .int (v 21 e))], [.int (v 21 e)])) (h' := zH v w t) rfl ?_
    refine zk_T.br (f1 := (28, [(0, .ref 20), (1, .int (nI e)), (2, .int year), (3, .int (v 21 e))], [])) (f2 := (21, [(0, .ref 20), (1, .int (nI e)), (2, .int year), (3, .int (v 21 e))], [])) rfl (fun c2 => ?_) (fun c2 => ?_)
    · have c2 : 0 < (v 21 e) := of_decide_eq_true c2
      refine zk_T.adv 3 (f' := (33, [(0, .ref 20), (1, .int (nI e)), (2, .int year), (3, .int (v 21 e))], [.int (nI e), .ref 22])) (h' := zH v w t) rfl ?_
      refine zk_T.ob (f' := (34, [(0, .ref 20), (1, .int (nI e)), (2, .int year), (3, .int (v 21 e))], [.int (v 22 (nI e).toNatClampNeg)])) (h' := zH v w t) rfl (by first | exact zk_inN (by omega) (by decide) | decide) ?_
      rw [nI_clamp (show e < 2 ^ 31 by omega)]
      refine zk_T.adv 4 (f' := (40, [(0, .ref 20), (1, .int (nI e)), (2, .int year), (3, .int (v 21 e))], [.int (nI e), .ref 22, .int year, .int (v 22 e)])) (h' := zH v w t) rfl ?_
      refine zk_T.ob (f' := (41, [(0, .ref 20), (1, .int (nI e)), (2, .int year), (3, .int (v 21 e))], [.int (v 22 (nI e).toNatClampNeg), .int year, .int (v 22 e)])) (h' := zH v w t) rfl (by first | exact zk_inN (by omega) (by decide) | decide) ?_
      rw [nI_clamp (show e < 2 ^ 31 by omega)]
      refine zk_T.adv 2 (f' := (43, [(0, .ref 20), (1, .int (nI e)), (2, .int year), (3, .int (v 21 e))], [.int (v 21 e), .int (year - (v 22 e)), .int (v 22 e)])) (h' := zH v w t) rfl ?_
      refine zk_T.ob (f' := (44, [(0, .ref 20), (1, .int (nI e)), (2, .int year), (3, .int (v 21 e))], [.int ((year - (v 22 e)) / (v 21 e)), .int (v 22 e)])) (h' := zH v w t) rfl (decide_eq_true (fun z => by rw [z] at c2; exact absurd c2 (by decide))) ?_
      refine zk_T.adv 5 (f' := (49, [(0, .ref 20), (1, .int (nI e)), (2, .int year), (3, .int (v 21 e))], [.int ((v 22 e) + ((((year - (v 22 e)) / (v 21 e)) + 1) * (v 21 e)))])) (h' := zH v w t) rfl ?_
      exact zk_T.rt rfl rfl (by simp only [zr_firstStrike, if_neg c1, if_pos c2])
    · have c2 : ¬ (0 < (v 21 e)) := of_decide_eq_false c2
      refine zk_T.adv 3 (f' := (26, [(0, .ref 20), (1, .int (nI e)), (2, .int year), (3, .int (v 21 e))], [.int (nI e), .ref 22])) (h' := zH v w t) rfl ?_
      refine zk_T.ob (f' := (27, [(0, .ref 20), (1, .int (nI e)), (2, .int year), (3, .int (v 21 e))], [.int (v 22 (nI e).toNatClampNeg)])) (h' := zH v w t) rfl (by first | exact zk_inN (by omega) (by decide) | decide) ?_
      rw [nI_clamp (show e < 2 ^ 31 by omega)]
      exact zk_T.rt rfl rfl (by simp only [zr_firstStrike, if_neg c1, if_neg c2])
def zr_wh (b : Int32) : Int32 := if ((b >>> ((7 : Int32) &&& 31)) &&& 1) = 0 then if ((b >>> ((6 : Int32) &&& 31)) &&& 1) = 0 then if ((b >>> ((5 : Int32) &&& 31)) &&& 1) = 0 then if ((b >>> ((4 : Int32) &&& 31)) &&& 1) = 0 then if ((b >>> ((3 : Int32) &&& 31)) &&& 1) = 0 then if ((b >>> ((2 : Int32) &&& 31)) &&& 1) = 0 then if ((b >>> ((1 : Int32) &&& 31)) &&& 1) = 0 then if ((b >>> ((0 : Int32) &&& 31)) &&& 1) = 0 then b else (b ^^^ ((1 : Int32) <<< ((0 : Int32) &&& 31))) else (b ^^^ ((1 : Int32) <<< ((1 : Int32) &&& 31))) else (b ^^^ ((1 : Int32) <<< ((2 : Int32) &&& 31))) else (b ^^^ ((1 : Int32) <<< ((3 : Int32) &&& 31))) else (b ^^^ ((1 : Int32) <<< ((4 : Int32) &&& 31))) else (b ^^^ ((1 : Int32) <<< ((5 : Int32) &&& 31))) else (b ^^^ ((1 : Int32) <<< ((6 : Int32) &&& 31))) else (b ^^^ ((1 : Int32) <<< ((7 : Int32) &&& 31)))
/-- BasketKeep$Level.withoutHighest -/
theorem zs_withoutHighest (b : Int32) : zk_Cr zk_mt zk_ex Ls xs 22 [.int b] (zH v w t) (some (.int (zr_wh b)), zH v w t) := by
  refine zk_Cr.of (K := zm_22) rfl rfl rfl ?_
  show zk_T zk_mt zk_ex Ls xs zm_22 (0, [(0, .int b)], []) (zH v w t) _
  refine zk_T.adv 3 (f' := (4, [(0, .int b), (1, .int 7)], [.int 7])) (h' := zH v w t) rfl ?_
  refine zk_T.br (f1 := (27, [(0, .int b), (1, .int 7)], [])) (f2 := (7, [(0, .int b), (1, .int 7)], [])) rfl (fun c1 => absurd (of_decide_eq_true c1) (by decide)) (fun c1 => ?_)
  refine zk_T.adv 5 (f' := (12, [(0, .int b), (1, .int 7)], [.int ((b >>> ((7 : Int32) &&& 31)) &&& 1)])) (h' := zH v w t) rfl ?_
  refine zk_T.br (f1 := (21, [(0, .int b), (1, .int 7)], [])) (f2 := (15, [(0, .int b), (1, .int 7)], [])) rfl (fun c2 => ?_) (fun c2 => ?_)
  · have c2 : ((b >>> ((7 : Int32) &&& 31)) &&& 1) = 0 := of_decide_eq_true c2
    refine zk_T.adv 3 (f' := (4, [(0, .int b), (1, .int 6)], [.int 6])) (h' := zH v w t) rfl ?_
    refine zk_T.br (f1 := (27, [(0, .int b), (1, .int 6)], [])) (f2 := (7, [(0, .int b), (1, .int 6)], [])) rfl (fun c3 => absurd (of_decide_eq_true c3) (by decide)) (fun c3 => ?_)
    refine zk_T.adv 5 (f' := (12, [(0, .int b), (1, .int 6)], [.int ((b >>> ((6 : Int32) &&& 31)) &&& 1)])) (h' := zH v w t) rfl ?_
    refine zk_T.br (f1 := (21, [(0, .int b), (1, .int 6)], [])) (f2 := (15, [(0, .int b), (1, .int 6)], [])) rfl (fun c4 => ?_) (fun c4 => ?_)
    · have c4 : ((b >>> ((6 : Int32) &&& 31)) &&& 1) = 0 := of_decide_eq_true c4
      refine zk_T.adv 3 (f' := (4, [(0, .int b), (1, .int 5)], [.int 5])) (h' := zH v w t) rfl ?_
      refine zk_T.br (f1 := (27, [(0, .int b), (1, .int 5)], [])) (f2 := (7, [(0, .int b), (1, .int 5)], [])) rfl (fun c5 => absurd (of_decide_eq_true c5) (by decide)) (fun c5 => ?_)
      refine zk_T.adv 5 (f' := (12, [(0, .int b), (1, .int 5)], [.int ((b >>> ((5 : Int32) &&& 31)) &&& 1)])) (h' := zH v w t) rfl ?_
      refine zk_T.br (f1 := (21, [(0, .int b), (1, .int 5)], [])) (f2 := (15, [(0, .int b), (1, .int 5)], [])) rfl (fun c6 => ?_) (fun c6 => ?_)
      · have c6 : ((b >>> ((5 : Int32) &&& 31)) &&& 1) = 0 := of_decide_eq_true c6
        refine zk_T.adv 3 (f' := (4, [(0, .int b), (1, .int 4)], [.int 4])) (h' := zH v w t) rfl ?_
        refine zk_T.br (f1 := (27, [(0, .int b), (1, .int 4)], [])) (f2 := (7, [(0, .int b), (1, .int 4)], [])) rfl (fun c7 => absurd (of_decide_eq_true c7) (by decide)) (fun c7 => ?_)
        refine zk_T.adv 5 (f' := (12, [(0, .int b), (1, .int 4)], [.int ((b >>> ((4 : Int32) &&& 31)) &&& 1)])) (h' := zH v w t) rfl ?_
        refine zk_T.br (f1 := (21, [(0, .int b), (1, .int 4)], [])) (f2 := (15, [(0, .int b), (1, .int 4)], [])) rfl (fun c8 => ?_) (fun c8 => ?_)
        · have c8 : ((b >>> ((4 : Int32) &&& 31)) &&& 1) = 0 := of_decide_eq_true c8
          refine zk_T.adv 3 (f' := (4, [(0, .int b), (1, .int 3)], [.int 3])) (h' := zH v w t) rfl ?_
          refine zk_T.br (f1 := (27, [(0, .int b), (1, .int 3)], [])) (f2 := (7, [(0, .int b), (1, .int 3)], [])) rfl (fun c9 => absurd (of_decide_eq_true c9) (by decide)) (fun c9 => ?_)
          refine zk_T.adv 5 (f' := (12, [(0, .int b), (1, .int 3)], [.int ((b >>> ((3 : Int32) &&& 31)) &&& 1)])) (h' := zH v w t) rfl ?_
          refine zk_T.br (f1 := (21, [(0, .int b), (1, .int 3)], [])) (f2 := (15, [(0, .int b), (1, .int 3)], [])) rfl (fun c10 => ?_) (fun c10 => ?_)
          · have c10 : ((b >>> ((3 : Int32) &&& 31)) &&& 1) = 0 := of_decide_eq_true c10
            refine zk_T.adv 3 (f' := (4, [(0, .int b), (1, .int 2)], [.int 2])) (h' := zH v w t) rfl ?_
            refine zk_T.br (f1 := (27, [(0, .int b), (1, .int 2)], [])) (f2 := (7, [(0, .int b), (1, .int 2)], [])) rfl (fun c11 => absurd (of_decide_eq_true c11) (by decide)) (fun c11 => ?_)
            refine zk_T.adv 5 (f' := (12, [(0, .int b), (1, .int 2)], [.int ((b >>> ((2 : Int32) &&& 31)) &&& 1)])) (h' := zH v w t) rfl ?_
            refine zk_T.br (f1 := (21, [(0, .int b), (1, .int 2)], [])) (f2 := (15, [(0, .int b), (1, .int 2)], [])) rfl (fun c12 => ?_) (fun c12 => ?_)
            · have c12 : ((b >>> ((2 : Int32) &&& 31)) &&& 1) = 0 := of_decide_eq_true c12
              refine zk_T.adv 3 (f' := (4, [(0, .int b), (1, .int 1)], [.int 1])) (h' := zH v w t) rfl ?_
              refine zk_T.br (f1 := (27, [(0, .int b), (1, .int 1)], [])) (f2 := (7, [(0, .int b), (1, .int 1)], [])) rfl (fun c13 => absurd (of_decide_eq_true c13) (by decide)) (fun c13 => ?_)
              refine zk_T.adv 5 (f' := (12, [(0, .int b), (1, .int 1)], [.int ((b >>> ((1 : Int32) &&& 31)) &&& 1)])) (h' := zH v w t) rfl ?_
              refine zk_T.br (f1 := (21, [(0, .int b), (1, .int 1)], [])) (f2 := (15, [(0, .int b), (1, .int 1)], [])) rfl (fun c14 => ?_) (fun c14 => ?_)
              · have c14 : ((b >>> ((1 : Int32) &&& 31)) &&& 1) = 0 := of_decide_eq_true c14
                refine zk_T.adv 3 (f' := (4, [(0, .int b), (1, .int 0)], [.int 0])) (h' := zH v w t) rfl ?_
                refine zk_T.br (f1 := (27, [(0, .int b), (1, .int 0)], [])) (f2 := (7, [(0, .int b), (1, .int 0)], [])) rfl (fun c15 => absurd (of_decide_eq_true c15) (by decide)) (fun c15 => ?_)
                refine zk_T.adv 5 (f' := (12, [(0, .int b), (1, .int 0)], [.int ((b >>> ((0 : Int32) &&& 31)) &&& 1)])) (h' := zH v w t) rfl ?_
                refine zk_T.br (f1 := (21, [(0, .int b), (1, .int 0)], [])) (f2 := (15, [(0, .int b), (1, .int 0)], [])) rfl (fun c16 => ?_) (fun c16 => ?_)
                · have c16 : ((b >>> ((0 : Int32) &&& 31)) &&& 1) = 0 := of_decide_eq_true c16
                  refine zk_T.adv 3 (f' := (4, [(0, .int b), (1, .int (-1))], [.int (-1)])) (h' := zH v w t) rfl ?_
                  refine zk_T.br (f1 := (27, [(0, .int b), (1, .int (-1))], [])) (f2 := (7, [(0, .int b), (1, .int (-1))], [])) rfl (fun c17 => ?_) (fun c17 => absurd (by decide) (of_decide_eq_false c17))
                  refine zk_T.adv 1 (f' := (28, [(0, .int b), (1, .int (-1))], [.int b])) (h' := zH v w t) rfl ?_
                  exact zk_T.rt rfl rfl (by simp only [zr_wh, if_pos c2, if_pos c4, if_pos c6, if_pos c8, if_pos c10, if_pos c12, if_pos c14, if_pos c16])
                · have c16 : ¬ (((b >>> ((0 : Int32) &&& 31)) &&& 1) = 0) := of_decide_eq_false c16
                  refine zk_T.adv 5 (f' := (20, [(0, .int b), (1, .int 0)], [.int (b ^^^ ((1 : Int32) <<< ((0 : Int32) &&& 31)))])) (h' := zH v w t) rfl ?_
                  exact zk_T.rt rfl rfl (by simp only [zr_wh, if_pos c2, if_pos c4, if_pos c6, if_pos c8, if_pos c10, if_pos c12, if_pos c14, if_neg c16])
              · have c14 : ¬ (((b >>> ((1 : Int32) &&& 31)) &&& 1) = 0) := of_decide_eq_false c14
                refine zk_T.adv 5 (f' := (20, [(0, .int b), (1, .int 1)], [.int (b ^^^ ((1 : Int32) <<< ((1 : Int32) &&& 31)))])) (h' := zH v w t) rfl ?_
                exact zk_T.rt rfl rfl (by simp only [zr_wh, if_pos c2, if_pos c4, if_pos c6, if_pos c8, if_pos c10, if_pos c12, if_neg c14])
            · have c12 : ¬ (((b >>> ((2 : Int32) &&& 31)) &&& 1) = 0) := of_decide_eq_false c12
              refine zk_T.adv 5 (f' := (20, [(0, .int b), (1, .int 2)], [.int (b ^^^ ((1 : Int32) <<< ((2 : Int32) &&& 31)))])) (h' := zH v w t) rfl ?_
              exact zk_T.rt rfl rfl (by simp only [zr_wh, if_pos c2, if_pos c4, if_pos c6, if_pos c8, if_pos c10, if_neg c12])
          · have c10 : ¬ (((b >>> ((3 : Int32) &&& 31)) &&& 1) = 0) := of_decide_eq_false c10
            refine zk_T.adv 5 (f' := (20, [(0, .int b), (1, .int 3)], [.int (b ^^^ ((1 : Int32) <<< ((3 : Int32) &&& 31)))])) (h' := zH v w t) rfl ?_
            exact zk_T.rt rfl rfl (by simp only [zr_wh, if_pos c2, if_pos c4, if_pos c6, if_pos c8, if_neg c10])
        · have c8 : ¬ (((b >>> ((4 : Int32) &&& 31)) &&& 1) = 0) := of_decide_eq_false c8
          refine zk_T.adv 5 (f' := (20, [(0, .int b), (1, .int 4)], [.int (b ^^^ ((1 : Int32) <<< ((4 : Int32) &&& 31)))])) (h' := zH v w t) rfl ?_
          exact zk_T.rt rfl rfl (by simp only [zr_wh, if_pos c2, if_pos c4, if_pos c6, if_neg c8])
      · have c6 : ¬ (((b >>> ((5 : Int32) &&& 31)) &&& 1) = 0) := of_decide_eq_false c6
        refine zk_T.adv 5 (f' := (20, [(0, .int b), (1, .int 5)], [.int (b ^^^ ((1 : Int32) <<< ((5 : Int32) &&& 31)))])) (h' := zH v w t) rfl ?_
        exact zk_T.rt rfl rfl (by simp only [zr_wh, if_pos c2, if_pos c4, if_neg c6])
    · have c4 : ¬ (((b >>> ((6 : Int32) &&& 31)) &&& 1) = 0) := of_decide_eq_false c4
      refine zk_T.adv 5 (f' := (20, [(0, .int b), (1, .int 6)], [.int (b ^^^ ((1 : Int32) <<< ((6 : Int32) &&& 31)))])) (h' := zH v w t) rfl ?_
      exact zk_T.rt rfl rfl (by simp only [zr_wh, if_pos c2, if_neg c4])
  · have c2 : ¬ (((b >>> ((7 : Int32) &&& 31)) &&& 1) = 0) := of_decide_eq_false c2
    refine zk_T.adv 5 (f' := (20, [(0, .int b), (1, .int 7)], [.int (b ^^^ ((1 : Int32) <<< ((7 : Int32) &&& 31)))])) (h' := zH v w t) rfl ?_
    exact zk_T.rt rfl rfl (by simp only [zr_wh, if_neg c2])
def zr_isLost (lost g : Int32) : Int32 := if ((lost >>> (g &&& 31)) &&& 1) = 0 then 0 else 1
/-- BasketKeep$State.isLost -/
theorem zs_isLost_now (g : Int32) : zk_Cr zk_mt zk_ex Ls xs 25 [.ref 32, .int g] (zH v w t) (some (.int (zr_isLost (v 32 1) g)), zH v w t) := by
  refine zk_Cr.of (K := zm_25) rfl rfl rfl ?_
  show zk_T zk_mt zk_ex Ls xs zm_25 (0, [(0, .ref 32), (1, .int g)], []) (zH v w t) _
  refine zk_T.adv 6 (f' := (8, [(0, .ref 32), (1, .int g)], [.int (((v 32 1) >>> (g &&& 31)) &&& 1)])) (h' := zH v w t) rfl ?_
  refine zk_T.br (f1 := (15, [(0, .ref 32), (1, .int g)], [])) (f2 := (11, [(0, .ref 32), (1, .int g)], [])) rfl (fun c1 => ?_) (fun c1 => ?_)
  · have c1 : (((v 32 1) >>> (g &&& 31)) &&& 1) = 0 := of_decide_eq_true c1
    refine zk_T.adv 1 (f' := (16, [(0, .ref 32), (1, .int g)], [.int 0])) (h' := zH v w t) rfl ?_
    exact zk_T.rt rfl rfl (by simp only [zr_isLost, if_pos c1])
  · have c1 : ¬ ((((v 32 1) >>> (g &&& 31)) &&& 1) = 0) := of_decide_eq_false c1
    refine zk_T.adv 2 (f' := (16, [(0, .ref 32), (1, .int g)], [.int 1])) (h' := zH v w t) rfl ?_
    exact zk_T.rt rfl rfl (by simp only [zr_isLost, if_neg c1])
/-- BasketKeep$State.isLost -/
theorem zs_isLost_tried (g : Int32) : zk_Cr zk_mt zk_ex Ls xs 25 [.ref 36, .int g] (zH v w t) (some (.int (zr_isLost (v 36 1) g)), zH v w t) := by
  refine zk_Cr.of (K := zm_25) rfl rfl rfl ?_
  show zk_T zk_mt zk_ex Ls xs zm_25 (0, [(0, .ref 36), (1, .int g)], []) (zH v w t) _
  refine zk_T.adv 6 (f' := (8, [(0, .ref 36), (1, .int g)], [.int (((v 36 1) >>> (g &&& 31)) &&& 1)])) (h' := zH v w t) rfl ?_
  refine zk_T.br (f1 := (15, [(0, .ref 36), (1, .int g)], [])) (f2 := (11, [(0, .ref 36), (1, .int g)], [])) rfl (fun c1 => ?_) (fun c1 => ?_)
  · have c1 : (((v 36 1) >>> (g &&& 31)) &&& 1) = 0 := of_decide_eq_true c1
    refine zk_T.adv 1 (f' := (16, [(0, .ref 36), (1, .int g)], [.int 0])) (h' := zH v w t) rfl ?_
    exact zk_T.rt rfl rfl (by simp only [zr_isLost, if_pos c1])
  · have c1 : ¬ ((((v 36 1) >>> (g &&& 31)) &&& 1) = 0) := of_decide_eq_false c1
    refine zk_T.adv 2 (f' := (16, [(0, .ref 36), (1, .int g)], [.int 1])) (h' := zH v w t) rfl ?_
    exact zk_T.rt rfl rfl (by simp only [zr_isLost, if_neg c1])
/-- BasketKeep$State.isLost -/
theorem zs_isLost_start (g : Int32) : zk_Cr zk_mt zk_ex Ls xs 25 [.ref 60, .int g] (zH v w t) (some (.int (zr_isLost (v 60 1) g)), zH v w t) := by
  refine zk_Cr.of (K := zm_25) rfl rfl rfl ?_
  show zk_T zk_mt zk_ex Ls xs zm_25 (0, [(0, .ref 60), (1, .int g)], []) (zH v w t) _
  refine zk_T.adv 6 (f' := (8, [(0, .ref 60), (1, .int g)], [.int (((v 60 1) >>> (g &&& 31)) &&& 1)])) (h' := zH v w t) rfl ?_
  refine zk_T.br (f1 := (15, [(0, .ref 60), (1, .int g)], [])) (f2 := (11, [(0, .ref 60), (1, .int g)], [])) rfl (fun c1 => ?_) (fun c1 => ?_)
  · have c1 : (((v 60 1) >>> (g &&& 31)) &&& 1) = 0 := of_decide_eq_true c1
    refine zk_T.adv 1 (f' := (16, [(0, .ref 60), (1, .int g)], [.int 0])) (h' := zH v w t) rfl ?_
    exact zk_T.rt rfl rfl (by simp only [zr_isLost, if_pos c1])
  · have c1 : ¬ ((((v 60 1) >>> (g &&& 31)) &&& 1) = 0) := of_decide_eq_false c1
    refine zk_T.adv 2 (f' := (16, [(0, .ref 60), (1, .int g)], [.int 1])) (h' := zH v w t) rfl ?_
    exact zk_T.rt rfl rfl (by simp only [zr_isLost, if_neg c1])
def zl_goodInG (li : Nat → Int32) (m : Int32) (j : Nat) (s : Unit) : (Unit) ⊕ Int32 := match s with
  | () => if (li j) = m then .inr (nI j) else .inl ()
theorem zl_goodIn (Gn : Nat) (h4 : Gn ≤ 4) (m : Int32) : ∀ (s : Unit) (q : Option Value × zk_H), zk_or (fun (s : Unit) => zk_T zk_mt zk_ex Ls xs zm_23 (25, [(0, .ref 32), (1, .int m), (2, .int (nI Gn)), (3, .int (nI (0 + Gn)))], []) (zH v w t) q) (fun (r : Int32) => (some (.int r), zH v w t) = q) (zfr (zl_goodInG (v 33) m) Gn 0 s) → zk_T zk_mt zk_ex Ls xs zm_23 (2, [(0, .ref 32), (1, .int m), (2, .int (nI Gn)), (3, .int (nI 0))], []) (zH v w t) q := by
  intro s q hk
  refine zk_forX (M := zm_23) (fun j (s : Unit) => (2, [(0, .ref 32), (1, .int m), (2, .int (nI Gn)), (3, .int (nI j))], [])) (fun _ (s : Unit) => zH v w t) (zl_goodInG (v 33) m) (fun _ _ => True) (fun (s : Unit) => (25, [(0, .ref 32), (1, .int m), (2, .int (nI Gn)), (3, .int (nI (0 + Gn)))], [])) (fun (s : Unit) => zH v w t) (fun r q => (some (.int r), zH v w t) = q) (Gn) 0 s (fun _ _ _ _ _ _ _ => trivial) (fun j s hj1 hj2 hp q hk => ?_) (fun s hp q hk => ?_) ?_ q hk
  · have hz := True.intro
    show zk_T zk_mt zk_ex Ls xs zm_23 (2, [(0, .ref 32), (1, .int m), (2, .int (nI Gn)), (3, .int (nI j))], []) (zH v w t) q
    refine zk_T.adv 2 (f' := (4, [(0, .ref 32), (1, .int m), (2, .int (nI Gn)), (3, .int (nI j))], [.int (nI Gn), .int (nI j)])) (h' := zH v w t) rfl ?_
    refine zk_T.br (f1 := (25, [(0, .ref 32), (1, .int m), (2, .int (nI Gn)), (3, .int (nI j))], [])) (f2 := (7, [(0, .ref 32), (1, .int m), (2, .int (nI Gn)), (3, .int (nI j))], [])) rfl (fun c1 => absurd (of_decide_eq_true c1) (nI_ge (show j < Gn by omega) (by omega))) (fun c1 => ?_)
    refine zk_T.adv 3 (f' := (12, [(0, .ref 32), (1, .int m), (2, .int (nI Gn)), (3, .int (nI j))], [.int (nI j), .ref 33])) (h' := zH v w t) rfl ?_
    refine zk_T.ob (f' := (13, [(0, .ref 32), (1, .int m), (2, .int (nI Gn)), (3, .int (nI j))], [.int (v 33 (nI j).toNatClampNeg)])) (h' := zH v w t) rfl (by first | exact zk_inN (by omega) (by decide) | decide) ?_
    rw [nI_clamp (show j < 2 ^ 31 by omega)]
    refine zk_T.adv 1 (f' := (14, [(0, .ref 32), (1, .int m), (2, .int (nI Gn)), (3, .int (nI j))], [.int m, .int (v 33 j)])) (h' := zH v w t) rfl ?_
    refine zk_T.br (f1 := (17, [(0, .ref 32), (1, .int m), (2, .int (nI Gn)), (3, .int (nI j))], [])) (f2 := (19, [(0, .ref 32), (1, .int m), (2, .int (nI Gn)), (3, .int (nI j))], [])) rfl (fun c2 => ?_) (fun c2 => ?_)
    · have c2 : (v 33 j) = m := of_decide_eq_true c2
      refine zk_T.adv 1 (f' := (18, [(0, .ref 32), (1, .int m), (2, .int (nI Gn)), (3, .int (nI j))], [.int (nI j)])) (h' := zH v w t) rfl ?_
      simp only [zl_goodInG, zk_or, if_pos c2] at hk
      exact zk_T.rt rfl rfl hk
    · have c2 : ¬ ((v 33 j) = m) := of_decide_eq_false c2
      refine zk_T.adv 2 (f' := (2, [(0, .ref 32), (1, .int m), (2, .int (nI Gn)), (3, .int ((nI j) + 1))], [])) (h' := zH v w t) rfl ?_
      rw [nI_1]
      simp only [zl_goodInG, zk_or, if_neg c2] at hk
      exact hk
  · have hz := True.intro
    show zk_T zk_mt zk_ex Ls xs zm_23 (2, [(0, .ref 32), (1, .int m), (2, .int (nI Gn)), (3, .int (nI (0 + Gn)))], []) (zH v w t) q
    refine zk_T.adv 2 (f' := (4, [(0, .ref 32), (1, .int m), (2, .int (nI Gn)), (3, .int (nI (0 + Gn)))], [.int (nI Gn), .int (nI (0 + Gn))])) (h' := zH v w t) rfl ?_
    refine zk_T.br (f1 := (25, [(0, .ref 32), (1, .int m), (2, .int (nI Gn)), (3, .int (nI (0 + Gn)))], [])) (f2 := (7, [(0, .ref 32), (1, .int m), (2, .int (nI Gn)), (3, .int (nI (0 + Gn)))], [])) rfl (fun c1 => ?_) (fun c1 => absurd (by rw [Nat.zero_add]; exact nI_le (Nat.le_refl _) (by omega)) (of_decide_eq_false c1))
    exact hk
  · exact trivial
def zr_goodIn (Gn : Nat) (li : Nat → Int32) (m : Int32) : Int32 := match zfr (zl_goodInG (li) m) Gn 0 () with | .inl s => (-2) | .inr r => r
/-- BasketKeep$State.goodIn -/
theorem zs_goodIn (Gn : Nat) (h4 : Gn ≤ 4) (m : Int32) : zk_Cr zk_mt zk_ex Ls xs 23 [.ref 32, .int m, .int (nI Gn)] (zH v w t) (some (.int (zr_goodIn Gn (v 33) m)), zH v w t) := by
  refine zk_Cr.of (K := zm_23) rfl rfl rfl ?_
  show zk_T zk_mt zk_ex Ls xs zm_23 (0, [(0, .ref 32), (1, .int m), (2, .int (nI Gn))], []) (zH v w t) _
  refine zk_T.adv 2 (f' := (2, [(0, .ref 32), (1, .int m), (2, .int (nI Gn)), (3, .int 0)], [])) (h' := zH v w t) rfl ?_
  refine zl_goodIn Gn h4 m () _ ?_
  cases z1 : zfr (zl_goodInG (v 33) m) Gn 0 () with
  | inl s =>
    show zk_T zk_mt zk_ex Ls xs zm_23 (25, [(0, .ref 32), (1, .int m), (2, .int (nI Gn)), (3, .int (nI (0 + Gn)))], []) (zH v w t) _
    refine zk_T.adv 1 (f' := (27, [(0, .ref 32), (1, .int m), (2, .int (nI Gn)), (3, .int (nI (0 + Gn)))], [.int (-2)])) (h' := zH v w t) rfl ?_
    exact zk_T.rt rfl rfl (by simp only [zr_goodIn, z1])
  | inr r =>
    show ((some (Value.int r), zH v w t) : Option Value × zk_H) = _
    simp only [zr_goodIn, z1]
def zl_goodsInBasketsG (li : Nat → Int32) (j : Nat) (s : Int32) : Int32 := match s with
  | a => if (li j) < 0 then a else a + 1
theorem zl_goodsInBaskets (Gn : Nat) (h4 : Gn ≤ 4) : ∀ (s : Int32) (q : Option Value × zk_H), zk_T zk_mt zk_ex Ls xs zm_24 ((fun (s : Int32) => ((27, [(0, .ref 32), (1, .int (nI Gn)), (2, .int s), (3, .int (nI (0 + Gn)))], []) : zk_F)) (zf (zl_goodsInBasketsG (v 33)) Gn 0 s)) ((fun (s : Int32) => zH v w t) (zf (zl_goodsInBasketsG (v 33)) Gn 0 s)) q → zk_T zk_mt zk_ex Ls xs zm_24 (4, [(0, .ref 32), (1, .int (nI Gn)), (2, .int s), (3, .int (nI 0))], []) (zH v w t) q := by
  intro s q hk
  refine zk_forK (M := zm_24) (fun j (s : Int32) => (4, [(0, .ref 32), (1, .int (nI Gn)), (2, .int s), (3, .int (nI j))], [])) (fun _ (s : Int32) => zH v w t) (zl_goodsInBasketsG (v 33)) (fun _ _ => True) (fun (s : Int32) => (27, [(0, .ref 32), (1, .int (nI Gn)), (2, .int s), (3, .int (nI (0 + Gn)))], [])) (fun (s : Int32) => zH v w t) (Gn) 0 s (fun _ _ _ _ _ => trivial) (fun j s hj1 hj2 hp q hk => ?_) (fun s hp q hk => ?_) ?_ q hk
  · have hz := True.intro
    obtain ⟨a, rfl⟩ : ∃ z, z = s := ⟨_, rfl⟩
    show zk_T zk_mt zk_ex Ls xs zm_24 (4, [(0, .ref 32), (1, .int (nI Gn)), (2, .int a), (3, .int (nI j))], []) (zH v w t) q
    refine zk_T.adv 2 (f' := (6, [(0, .ref 32), (1, .int (nI Gn)), (2, .int a), (3, .int (nI j))], [.int (nI Gn), .int (nI j)])) (h' := zH v w t) rfl ?_
    refine zk_T.br (f1 := (27, [(0, .ref 32), (1, .int (nI Gn)), (2, .int a), (3, .int (nI j))], [])) (f2 := (9, [(0, .ref 32), (1, .int (nI Gn)), (2, .int a), (3, .int (nI j))], [])) rfl (fun c1 => absurd (of_decide_eq_true c1) (nI_ge (show j < Gn by omega) (by omega))) (fun c1 => ?_)
    refine zk_T.adv 3 (f' := (14, [(0, .ref 32), (1, .int (nI Gn)), (2, .int a), (3, .int (nI j))], [.int (nI j), .ref 33])) (h' := zH v w t) rfl ?_
    refine zk_T.ob (f' := (15, [(0, .ref 32), (1, .int (nI Gn)), (2, .int a), (3, .int (nI j))], [.int (v 33 (nI j).toNatClampNeg)])) (h' := zH v w t) rfl (by first | exact zk_inN (by omega) (by decide) | decide) ?_
    rw [nI_clamp (show j < 2 ^ 31 by omega)]
    refine zk_T.br (f1 := (21, [(0, .ref 32), (1, .int (nI Gn)), (2, .int a), (3, .int (nI j))], [])) (f2 := (18, [(0, .ref 32), (1, .int (nI Gn)), (2, .int a), (3, .int (nI j))], [])) rfl (fun c2 => ?_) (fun c2 => ?_)
    · have c2 : (v 33 j) < 0 := of_decide_eq_true c2
      refine zk_T.adv 2 (f' := (4, [(0, .ref 32), (1, .int (nI Gn)), (2, .int a), (3, .int ((nI j) + 1))], [])) (h' := zH v w t) rfl ?_
      rw [nI_1]
      simp only [zl_goodsInBasketsG, if_pos c2] at hk
      exact hk
    · have c2 : ¬ ((v 33 j) < 0) := of_decide_eq_false c2
      refine zk_T.adv 3 (f' := (4, [(0, .ref 32), (1, .int (nI Gn)), (2, .int (a + 1)), (3, .int ((nI j) + 1))], [])) (h' := zH v w t) rfl ?_
      rw [nI_1]
      simp only [zl_goodsInBasketsG, if_neg c2] at hk
      exact hk
  · have hz := True.intro
    obtain ⟨a, rfl⟩ : ∃ z, z = s := ⟨_, rfl⟩
    show zk_T zk_mt zk_ex Ls xs zm_24 (4, [(0, .ref 32), (1, .int (nI Gn)), (2, .int a), (3, .int (nI (0 + Gn)))], []) (zH v w t) q
    refine zk_T.adv 2 (f' := (6, [(0, .ref 32), (1, .int (nI Gn)), (2, .int a), (3, .int (nI (0 + Gn)))], [.int (nI Gn), .int (nI (0 + Gn))])) (h' := zH v w t) rfl ?_
    refine zk_T.br (f1 := (27, [(0, .ref 32), (1, .int (nI Gn)), (2, .int a), (3, .int (nI (0 + Gn)))], [])) (f2 := (9, [(0, .ref 32), (1, .int (nI Gn)), (2, .int a), (3, .int (nI (0 + Gn)))], [])) rfl (fun c1 => ?_) (fun c1 => absurd (by rw [Nat.zero_add]; exact nI_le (Nat.le_refl _) (by omega)) (of_decide_eq_false c1))
    exact hk
  · exact trivial
def zr_goodsInBaskets (Gn : Nat) (li : Nat → Int32) : Int32 := (zf (zl_goodsInBasketsG (li)) Gn 0 0)
/-- BasketKeep$State.goodsInBaskets -/
theorem zs_goodsInBaskets (Gn : Nat) (h4 : Gn ≤ 4) : zk_Cr zk_mt zk_ex Ls xs 24 [.ref 32, .int (nI Gn)] (zH v w t) (some (.int (zr_goodsInBaskets Gn (v 33))), zH v w t) := by
  refine zk_Cr.of (K := zm_24) rfl rfl rfl ?_
  show zk_T zk_mt zk_ex Ls xs zm_24 (0, [(0, .ref 32), (1, .int (nI Gn))], []) (zH v w t) _
  refine zk_T.adv 4 (f' := (4, [(0, .ref 32), (1, .int (nI Gn)), (2, .int 0), (3, .int 0)], [])) (h' := zH v w t) rfl ?_
  refine zl_goodsInBaskets Gn h4 0 _ ?_
  show zk_T zk_mt zk_ex Ls xs zm_24 (27, [(0, .ref 32), (1, .int (nI Gn)), (2, .int (zf (zl_goodsInBasketsG (v 33)) Gn 0 0)), (3, .int (nI (0 + Gn)))], []) (zH v w t) _
  refine zk_T.adv 1 (f' := (28, [(0, .ref 32), (1, .int (nI Gn)), (2, .int (zf (zl_goodsInBasketsG (v 33)) Gn 0 0)), (3, .int (nI (0 + Gn)))], [.int (zf (zl_goodsInBasketsG (v 33)) Gn 0 0)])) (h' := zH v w t) rfl ?_
  exact zk_T.rt rfl rfl (by rfl)
def zl_makersThinkingOfG (th : Nat → Int32) (d : Int32) (j : Nat) (s : Int32) : Int32 := match s with
  | a => if (((th j) >>> (d &&& 31)) &&& 1) = 0 then a else a ||| ((1 : Int32) <<< ((nI j) &&& 31))
theorem zl_makersThinkingOf (Mn : Nat) (h5 : Mn ≤ 5) (d : Int32) : ∀ (s : Int32) (q : Option Value × zk_H), zk_T zk_mt zk_ex Ls xs zm_26 ((fun (s : Int32) => ((38, [(0, .ref 32), (1, .int d), (2, .int (nI Mn)), (3, .int s), (4, .int (nI (0 + Mn)))], []) : zk_F)) (zf (zl_makersThinkingOfG (v 34) d) Mn 0 s)) ((fun (s : Int32) => zH v w t) (zf (zl_makersThinkingOfG (v 34) d) Mn 0 s)) q → zk_T zk_mt zk_ex Ls xs zm_26 (5, [(0, .ref 32), (1, .int d), (2, .int (nI Mn)), (3, .int s), (4, .int (nI 0))], []) (zH v w t) q := by
  intro s q hk
  refine zk_forK (M := zm_26) (fun j (s : Int32) => (5, [(0, .ref 32), (1, .int d), (2, .int (nI Mn)), (3, .int s), (4, .int (nI j))], [])) (fun _ (s : Int32) => zH v w t) (zl_makersThinkingOfG (v 34) d) (fun _ _ => True) (fun (s : Int32) => (38, [(0, .ref 32), (1, .int d), (2, .int (nI Mn)), (3, .int s), (4, .int (nI (0 + Mn)))], [])) (fun (s : Int32) => zH v w t) (Mn) 0 s (fun _ _ _ _ _ => trivial) (fun j s hj1 hj2 hp q hk => ?_) (fun s hp q hk => ?_) ?_ q hk
  · have hz := True.intro
    obtain ⟨a, rfl⟩ : ∃ z, z = s := ⟨_, rfl⟩
    show zk_T zk_mt zk_ex Ls xs zm_26 (5, [(0, .ref 32), (1, .int d), (2, .int (nI Mn)), (3, .int a), (4, .int (nI j))], []) (zH v w t) q
    refine zk_T.adv 2 (f' := (8, [(0, .ref 32), (1, .int d), (2, .int (nI Mn)), (3, .int a), (4, .int (nI j))], [.int (nI Mn), .int (nI j)])) (h' := zH v w t) rfl ?_
    refine zk_T.br (f1 := (38, [(0, .ref 32), (1, .int d), (2, .int (nI Mn)), (3, .int a), (4, .int (nI j))], [])) (f2 := (11, [(0, .ref 32), (1, .int d), (2, .int (nI Mn)), (3, .int a), (4, .int (nI j))], [])) rfl (fun c1 => absurd (of_decide_eq_true c1) (nI_ge (show j < Mn by omega) (by omega))) (fun c1 => ?_)
    refine zk_T.adv 3 (f' := (17, [(0, .ref 32), (1, .int d), (2, .int (nI Mn)), (3, .int a), (4, .int (nI j))], [.int (nI j), .ref 34])) (h' := zH v w t) rfl ?_
    refine zk_T.ob (f' := (18, [(0, .ref 32), (1, .int d), (2, .int (nI Mn)), (3, .int a), (4, .int (nI j))], [.int (v 34 (nI j).toNatClampNeg)])) (h' := zH v w t) rfl (by first | exact zk_inN (by omega) (by decide) | decide) ?_
    rw [nI_clamp (show j < 2 ^ 31 by omega)]
    refine zk_T.adv 4 (f' := (22, [(0, .ref 32), (1, .int d), (2, .int (nI Mn)), (3, .int a), (4, .int (nI j))], [.int (((v 34 j) >>> (d &&& 31)) &&& 1)])) (h' := zH v w t) rfl ?_
    refine zk_T.br (f1 := (32, [(0, .ref 32), (1, .int d), (2, .int (nI Mn)), (3, .int a), (4, .int (nI j))], [])) (f2 := (25, [(0, .ref 32), (1, .int d), (2, .int (nI Mn)), (3, .int a), (4, .int (nI j))], [])) rfl (fun c2 => ?_) (fun c2 => ?_)
    · have c2 : (((v 34 j) >>> (d &&& 31)) &&& 1) = 0 := of_decide_eq_true c2
      refine zk_T.adv 2 (f' := (5, [(0, .ref 32), (1, .int d), (2, .int (nI Mn)), (3, .int a), (4, .int ((nI j) + 1))], [])) (h' := zH v w t) rfl ?_
      rw [nI_1]
      simp only [zl_makersThinkingOfG, if_pos c2] at hk
      exact hk
    · have c2 : ¬ ((((v 34 j) >>> (d &&& 31)) &&& 1) = 0) := of_decide_eq_false c2
      refine zk_T.adv 8 (f' := (5, [(0, .ref 32), (1, .int d), (2, .int (nI Mn)), (3, .int (a ||| ((1 : Int32) <<< ((nI j) &&& 31)))), (4, .int ((nI j) + 1))], [])) (h' := zH v w t) rfl ?_
      rw [nI_1]
      simp only [zl_makersThinkingOfG, if_neg c2] at hk
      exact hk
  · have hz := True.intro
    obtain ⟨a, rfl⟩ : ∃ z, z = s := ⟨_, rfl⟩
    show zk_T zk_mt zk_ex Ls xs zm_26 (5, [(0, .ref 32), (1, .int d), (2, .int (nI Mn)), (3, .int a), (4, .int (nI (0 + Mn)))], []) (zH v w t) q
    refine zk_T.adv 2 (f' := (8, [(0, .ref 32), (1, .int d), (2, .int (nI Mn)), (3, .int a), (4, .int (nI (0 + Mn)))], [.int (nI Mn), .int (nI (0 + Mn))])) (h' := zH v w t) rfl ?_
    refine zk_T.br (f1 := (38, [(0, .ref 32), (1, .int d), (2, .int (nI Mn)), (3, .int a), (4, .int (nI (0 + Mn)))], [])) (f2 := (11, [(0, .ref 32), (1, .int d), (2, .int (nI Mn)), (3, .int a), (4, .int (nI (0 + Mn)))], [])) rfl (fun c1 => ?_) (fun c1 => absurd (by rw [Nat.zero_add]; exact nI_le (Nat.le_refl _) (by omega)) (of_decide_eq_false c1))
    exact hk
  · exact trivial
def zr_makersThinkingOf (Mn : Nat) (th : Nat → Int32) (d : Int32) : Int32 := (zf (zl_makersThinkingOfG (th) d) Mn 0 0)
/-- BasketKeep$State.makersThinkingOf -/
theorem zs_makersThinkingOf (Mn : Nat) (h5 : Mn ≤ 5) (d : Int32) : zk_Cr zk_mt zk_ex Ls xs 26 [.ref 32, .int d, .int (nI Mn)] (zH v w t) (some (.int (zr_makersThinkingOf Mn (v 34) d)), zH v w t) := by
  refine zk_Cr.of (K := zm_26) rfl rfl rfl ?_
  show zk_T zk_mt zk_ex Ls xs zm_26 (0, [(0, .ref 32), (1, .int d), (2, .int (nI Mn))], []) (zH v w t) _
  refine zk_T.adv 4 (f' := (5, [(0, .ref 32), (1, .int d), (2, .int (nI Mn)), (3, .int 0), (4, .int 0)], [])) (h' := zH v w t) rfl ?_
  refine zl_makersThinkingOf Mn h5 d 0 _ ?_
  show zk_T zk_mt zk_ex Ls xs zm_26 (38, [(0, .ref 32), (1, .int d), (2, .int (nI Mn)), (3, .int (zf (zl_makersThinkingOfG (v 34) d) Mn 0 0)), (4, .int (nI (0 + Mn)))], []) (zH v w t) _
  refine zk_T.adv 1 (f' := (39, [(0, .ref 32), (1, .int d), (2, .int (nI Mn)), (3, .int (zf (zl_makersThinkingOfG (v 34) d) Mn 0 0)), (4, .int (nI (0 + Mn)))], [.int (zf (zl_makersThinkingOfG (v 34) d) Mn 0 0)])) (h' := zH v w t) rfl ?_
  exact zk_T.rt rfl rfl (by rfl)
/-- BasketKeep$State.beginAs -/
theorem zs_beginNow  : zk_Cr zk_mt zk_ex Ls xs 91 [.ref 32, .ref 20] (zH v w t) (none, zH (zb (zb (zb (zb v 32 (upd (upd (v 32) 0 0) 1 0)) 33 (va_cpy (v 28) (v 33) (0 : Int32).toNatClampNeg (0 : Int32).toNatClampNeg (4 : Int32).toNatClampNeg)) 34 (va_cpy (v 25) (v 34) (0 : Int32).toNatClampNeg (0 : Int32).toNatClampNeg (5 : Int32).toNatClampNeg)) 35 (va_cpy (v 24) (v 35) (0 : Int32).toNatClampNeg (0 : Int32).toNatClampNeg (5 : Int32).toNatClampNeg)) w t) := by
  refine zk_Cr.of (K := zm_91) rfl rfl rfl ?_
  show zk_T zk_mt zk_ex Ls xs zm_91 (0, [(0, .ref 32), (1, .ref 20)], []) (zH v w t) _
  refine zk_T.adv 13 (f' := (21, [(0, .ref 32), (1, .ref 20)], [.int 4, .int 0, .ref 33, .int 0, .ref 28])) (h' := zH (zb v 32 (upd (upd (v 32) 0 0) 1 0)) w t) rfl ?_
  refine zk_T.ob (f' := (24, [(0, .ref 32), (1, .ref 20)], [])) (h' := zH (zb (zb v 32 (upd (upd (v 32) 0 0) 1 0)) 33 (va_cpy (v 28) (v 33) (0 : Int32).toNatClampNeg (0 : Int32).toNatClampNeg (4 : Int32).toNatClampNeg)) w t) rfl rfl ?_
  refine zk_T.adv 7 (f' := (35, [(0, .ref 32), (1, .ref 20)], [.int 5, .int 0, .ref 34, .int 0, .ref 25])) (h' := zH (zb (zb v 32 (upd (upd (v 32) 0 0) 1 0)) 33 (va_cpy (v 28) (v 33) (0 : Int32).toNatClampNeg (0 : Int32).toNatClampNeg (4 : Int32).toNatClampNeg)) w t) rfl ?_
  refine zk_T.ob (f' := (38, [(0, .ref 32), (1, .ref 20)], [])) (h' := zH (zb (zb (zb v 32 (upd (upd (v 32) 0 0) 1 0)) 33 (va_cpy (v 28) (v 33) (0 : Int32).toNatClampNeg (0 : Int32).toNatClampNeg (4 : Int32).toNatClampNeg)) 34 (va_cpy (v 25) (v 34) (0 : Int32).toNatClampNeg (0 : Int32).toNatClampNeg (5 : Int32).toNatClampNeg)) w t) rfl rfl ?_
  refine zk_T.adv 7 (f' := (49, [(0, .ref 32), (1, .ref 20)], [.int 5, .int 0, .ref 35, .int 0, .ref 24])) (h' := zH (zb (zb (zb v 32 (upd (upd (v 32) 0 0) 1 0)) 33 (va_cpy (v 28) (v 33) (0 : Int32).toNatClampNeg (0 : Int32).toNatClampNeg (4 : Int32).toNatClampNeg)) 34 (va_cpy (v 25) (v 34) (0 : Int32).toNatClampNeg (0 : Int32).toNatClampNeg (5 : Int32).toNatClampNeg)) w t) rfl ?_
  refine zk_T.ob (f' := (52, [(0, .ref 32), (1, .ref 20)], [])) (h' := zH (zb (zb (zb (zb v 32 (upd (upd (v 32) 0 0) 1 0)) 33 (va_cpy (v 28) (v 33) (0 : Int32).toNatClampNeg (0 : Int32).toNatClampNeg (4 : Int32).toNatClampNeg)) 34 (va_cpy (v 25) (v 34) (0 : Int32).toNatClampNeg (0 : Int32).toNatClampNeg (5 : Int32).toNatClampNeg)) 35 (va_cpy (v 24) (v 35) (0 : Int32).toNatClampNeg (0 : Int32).toNatClampNeg (5 : Int32).toNatClampNeg)) w t) rfl rfl ?_
  exact zk_T.rt rfl rfl (by rfl)
/-- BasketKeep$State.beginAs -/
theorem zs_beginStart  : zk_Cr zk_mt zk_ex Ls xs 91 [.ref 60, .ref 20] (zH v w t) (none, zH (zb (zb (zb (zb v 60 (upd (upd (v 60) 0 0) 1 0)) 61 (va_cpy (v 28) (v 61) (0 : Int32).toNatClampNeg (0 : Int32).toNatClampNeg (4 : Int32).toNatClampNeg)) 62 (va_cpy (v 25) (v 62) (0 : Int32).toNatClampNeg (0 : Int32).toNatClampNeg (5 : Int32).toNatClampNeg)) 63 (va_cpy (v 24) (v 63) (0 : Int32).toNatClampNeg (0 : Int32).toNatClampNeg (5 : Int32).toNatClampNeg)) w t) := by
  refine zk_Cr.of (K := zm_91) rfl rfl rfl ?_
  show zk_T zk_mt zk_ex Ls xs zm_91 (0, [(0, .ref 60), (1, .ref 20)], []) (zH v w t) _
  refine zk_T.adv 13 (f' := (21, [(0, .ref 60), (1, .ref 20)], [.int 4, .int 0, .ref 61, .int 0, .ref 28])) (h' := zH (zb v 60 (upd (upd (v 60) 0 0) 1 0)) w t) rfl ?_
  refine zk_T.ob (f' := (24, [(0, .ref 60), (1, .ref 20)], [])) (h' := zH (zb (zb v 60 (upd (upd (v 60) 0 0) 1 0)) 61 (va_cpy (v 28) (v 61) (0 : Int32).toNatClampNeg (0 : Int32).toNatClampNeg (4 : Int32).toNatClampNeg)) w t) rfl rfl ?_
  refine zk_T.adv 7 (f' := (35, [(0, .ref 60), (1, .ref 20)], [.int 5, .int 0, .ref 62, .int 0, .ref 25])) (h' := zH (zb (zb v 60 (upd (upd (v 60) 0 0) 1 0)) 61 (va_cpy (v 28) (v 61) (0 : Int32).toNatClampNeg (0 : Int32).toNatClampNeg (4 : Int32).toNatClampNeg)) w t) rfl ?_
  refine zk_T.ob (f' := (38, [(0, .ref 60), (1, .ref 20)], [])) (h' := zH (zb (zb (zb v 60 (upd (upd (v 60) 0 0) 1 0)) 61 (va_cpy (v 28) (v 61) (0 : Int32).toNatClampNeg (0 : Int32).toNatClampNeg (4 : Int32).toNatClampNeg)) 62 (va_cpy (v 25) (v 62) (0 : Int32).toNatClampNeg (0 : Int32).toNatClampNeg (5 : Int32).toNatClampNeg)) w t) rfl rfl ?_
  refine zk_T.adv 7 (f' := (49, [(0, .ref 60), (1, .ref 20)], [.int 5, .int 0, .ref 63, .int 0, .ref 24])) (h' := zH (zb (zb (zb v 60 (upd (upd (v 60) 0 0) 1 0)) 61 (va_cpy (v 28) (v 61) (0 : Int32).toNatClampNeg (0 : Int32).toNatClampNeg (4 : Int32).toNatClampNeg)) 62 (va_cpy (v 25) (v 62) (0 : Int32).toNatClampNeg (0 : Int32).toNatClampNeg (5 : Int32).toNatClampNeg)) w t) rfl ?_
  refine zk_T.ob (f' := (52, [(0, .ref 60), (1, .ref 20)], [])) (h' := zH (zb (zb (zb (zb v 60 (upd (upd (v 60) 0 0) 1 0)) 61 (va_cpy (v 28) (v 61) (0 : Int32).toNatClampNeg (0 : Int32).toNatClampNeg (4 : Int32).toNatClampNeg)) 62 (va_cpy (v 25) (v 62) (0 : Int32).toNatClampNeg (0 : Int32).toNatClampNeg (5 : Int32).toNatClampNeg)) 63 (va_cpy (v 24) (v 63) (0 : Int32).toNatClampNeg (0 : Int32).toNatClampNeg (5 : Int32).toNatClampNeg)) w t) rfl rfl ?_
  exact zk_T.rt rfl rfl (by rfl)
/-- BasketKeep$State.copyFrom -/
theorem zs_copyTried  : zk_Cr zk_mt zk_ex Ls xs 92 [.ref 36, .ref 32] (zH v w t) (none, zH (zb (zb (zb (zb v 36 (upd (upd (v 36) 0 (v 32 0)) 1 (v 32 1))) 37 (va_cpy (v 33) (v 37) (0 : Int32).toNatClampNeg (0 : Int32).toNatClampNeg (4 : Int32).toNatClampNeg)) 38 (va_cpy (v 34) (v 38) (0 : Int32).toNatClampNeg (0 : Int32).toNatClampNeg (5 : Int32).toNatClampNeg)) 39 (va_cpy (v 35) (v 39) (0 : Int32).toNatClampNeg (0 : Int32).toNatClampNeg (5 : Int32).toNatClampNeg)) w t) := by
  refine zk_Cr.of (K := zm_92) rfl rfl rfl ?_
  show zk_T zk_mt zk_ex Ls xs zm_92 (0, [(0, .ref 36), (1, .ref 32)], []) (zH v w t) _
  refine zk_T.adv 15 (f' := (27, [(0, .ref 36), (1, .ref 32)], [.int 4, .int 0, .ref 37, .int 0, .ref 33])) (h' := zH (zb v 36 (upd (upd (v 36) 0 (v 32 0)) 1 (v 32 1))) w t) rfl ?_
  refine zk_T.ob (f' := (30, [(0, .ref 36), (1, .ref 32)], [])) (h' := zH (zb (zb v 36 (upd (upd (v 36) 0 (v 32 0)) 1 (v 32 1))) 37 (va_cpy (v 33) (v 37) (0 : Int32).toNatClampNeg (0 : Int32).toNatClampNeg (4 : Int32).toNatClampNeg)) w t) rfl rfl ?_
  refine zk_T.adv 7 (f' := (41, [(0, .ref 36), (1, .ref 32)], [.int 5, .int 0, .ref 38, .int 0, .ref 34])) (h' := zH (zb (zb v 36 (upd (upd (v 36) 0 (v 32 0)) 1 (v 32 1))) 37 (va_cpy (v 33) (v 37) (0 : Int32).toNatClampNeg (0 : Int32).toNatClampNeg (4 : Int32).toNatClampNeg)) w t) rfl ?_
  refine zk_T.ob (f' := (44, [(0, .ref 36), (1, .ref 32)], [])) (h' := zH (zb (zb (zb v 36 (upd (upd (v 36) 0 (v 32 0)) 1 (v 32 1))) 37 (va_cpy (v 33) (v 37) (0 : Int32).toNatClampNeg (0 : Int32).toNatClampNeg (4 : Int32).toNatClampNeg)) 38 (va_cpy (v 34) (v 38) (0 : Int32).toNatClampNeg (0 : Int32).toNatClampNeg (5 : Int32).toNatClampNeg)) w t) rfl rfl ?_
  refine zk_T.adv 7 (f' := (55, [(0, .ref 36), (1, .ref 32)], [.int 5, .int 0, .ref 39, .int 0, .ref 35])) (h' := zH (zb (zb (zb v 36 (upd (upd (v 36) 0 (v 32 0)) 1 (v 32 1))) 37 (va_cpy (v 33) (v 37) (0 : Int32).toNatClampNeg (0 : Int32).toNatClampNeg (4 : Int32).toNatClampNeg)) 38 (va_cpy (v 34) (v 38) (0 : Int32).toNatClampNeg (0 : Int32).toNatClampNeg (5 : Int32).toNatClampNeg)) w t) rfl ?_
  refine zk_T.ob (f' := (58, [(0, .ref 36), (1, .ref 32)], [])) (h' := zH (zb (zb (zb (zb v 36 (upd (upd (v 36) 0 (v 32 0)) 1 (v 32 1))) 37 (va_cpy (v 33) (v 37) (0 : Int32).toNatClampNeg (0 : Int32).toNatClampNeg (4 : Int32).toNatClampNeg)) 38 (va_cpy (v 34) (v 38) (0 : Int32).toNatClampNeg (0 : Int32).toNatClampNeg (5 : Int32).toNatClampNeg)) 39 (va_cpy (v 35) (v 39) (0 : Int32).toNatClampNeg (0 : Int32).toNatClampNeg (5 : Int32).toNatClampNeg)) w t) rfl rfl ?_
  exact zk_T.rt rfl rfl (by rfl)
end Z23
