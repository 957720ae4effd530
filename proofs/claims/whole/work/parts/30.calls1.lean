/-! contracts: the class's calls: now, and years to come -/
section Z30
variable {Ls : Nat} {xs : Nat → Int32} {v : Nat → Nat → Int32} {w : Nat → Nat → Int64} {t : zk_H}
def zl_keptInAllG (kp : Nat → Int32) (j : Nat) (s : Int32) : Int32 := match s with
  | a => a + (kp j)
theorem zl_keptInAll (Mn : Nat) (hM : v 20 4 = nI Mn) (h5 : Mn ≤ 5) : ∀ (s : Int32) (q : Option Value × zk_H), zk_T zk_mt zk_ex Ls xs zm_31 ((fun (s : Int32) => ((27, [(0, .ref 43), (1, .ref 20), (2, .int s), (3, .int (nI (0 + Mn)))], []) : zk_F)) (zf (zl_keptInAllG (v 51)) Mn 0 s)) ((fun (s : Int32) => zH v w t) (zf (zl_keptInAllG (v 51)) Mn 0 s)) q → zk_T zk_mt zk_ex Ls xs zm_31 (4, [(0, .ref 43), (1, .ref 20), (2, .int s), (3, .int (nI 0))], []) (zH v w t) q := by
  intro s q hk
  refine zk_forK (M := zm_31) (fun j (s : Int32) => (4, [(0, .ref 43), (1, .ref 20), (2, .int s), (3, .int (nI j))], [])) (fun _ (s : Int32) => zH v w t) (zl_keptInAllG (v 51)) (fun _ _ => True) (fun (s : Int32) => (27, [(0, .ref 43), (1, .ref 20), (2, .int s), (3, .int (nI (0 + Mn)))], [])) (fun (s : Int32) => zH v w t) (Mn) 0 s (fun _ _ _ _ _ => trivial) (fun j s hj1 hj2 hp q hk => ?_) (fun s hp q hk => ?_) ?_ q hk
  · have hz := True.intro
    obtain ⟨a, rfl⟩ : ∃ z, z = s := ⟨_, rfl⟩
    show zk_T zk_mt zk_ex Ls xs zm_31 (4, [(0, .ref 43), (1, .ref 20), (2, .int a), (3, .int (nI j))], []) (zH v w t) q
    refine zk_T.adv 3 (f' := (9, [(0, .ref 43), (1, .ref 20), (2, .int a), (3, .int (nI j))], [.int (v 20 4), .int (nI j)])) (h' := zH v w t) rfl ?_
    refine zk_T.br (f1 := (27, [(0, .ref 43), (1, .ref 20), (2, .int a), (3, .int (nI j))], [])) (f2 := (12, [(0, .ref 43), (1, .ref 20), (2, .int a), (3, .int (nI j))], [])) rfl (fun c1 => absurd (of_decide_eq_true c1) (by rw [hM]; exact nI_ge (show j < Mn by omega) (by omega))) (fun c1 => ?_)
    refine zk_T.adv 4 (f' := (18, [(0, .ref 43), (1, .ref 20), (2, .int a), (3, .int (nI j))], [.int (nI j), .ref 50, .int a])) (h' := zH v w t) rfl ?_
    refine zk_T.ob (f' := (19, [(0, .ref 43), (1, .ref 20), (2, .int a), (3, .int (nI j))], [.int (v 51 (nI j).toNatClampNeg), .int a])) (h' := zH v w t) rfl (by first | exact zk_inN (by omega) (by decide) | decide) ?_
    rw [nI_clamp (show j < 2 ^ 31 by omega)]
    refine zk_T.adv 4 (f' := (4, [(0, .ref 43), (1, .ref 20), (2, .int (a + (v 51 j))), (3, .int ((nI j) + 1))], [])) (h' := zH v w t) rfl ?_
    rw [nI_1]
    simp only [zl_keptInAllG] at hk
    exact hk
  · have hz := True.intro
    obtain ⟨a, rfl⟩ : ∃ z, z = s := ⟨_, rfl⟩
    show zk_T zk_mt zk_ex Ls xs zm_31 (4, [(0, .ref 43), (1, .ref 20), (2, .int a), (3, .int (nI (0 + Mn)))], []) (zH v w t) q
    refine zk_T.adv 3 (f' := (9, [(0, .ref 43), (1, .ref 20), (2, .int a), (3, .int (nI (0 + Mn)))], [.int (v 20 4), .int (nI (0 + Mn))])) (h' := zH v w t) rfl ?_
    refine zk_T.br (f1 := (27, [(0, .ref 43), (1, .ref 20), (2, .int a), (3, .int (nI (0 + Mn)))], [])) (f2 := (12, [(0, .ref 43), (1, .ref 20), (2, .int a), (3, .int (nI (0 + Mn)))], [])) rfl (fun c1 => ?_) (fun c1 => absurd (by rw [hM, Nat.zero_add]; exact nI_le (Nat.le_refl _) (by omega)) (of_decide_eq_false c1))
    exact hk
  · exact trivial
def zr_keptInAll (Mn : Nat) (kp : Nat → Int32) : Int32 := (zf (zl_keptInAllG (kp)) Mn 0 0)
/-- BasketKeep$Outlook.keptInAll -/
theorem zs_keptInAll (Mn : Nat) (hM : v 20 4 = nI Mn) (h5 : Mn ≤ 5) : zk_Cr zk_mt zk_ex Ls xs 31 [.ref 43, .ref 20] (zH v w t) (some (.int (zr_keptInAll Mn (v 51))), zH v w t) := by
  refine zk_Cr.of (K := zm_31) rfl rfl rfl ?_
  show zk_T zk_mt zk_ex Ls xs zm_31 (0, [(0, .ref 43), (1, .ref 20)], []) (zH v w t) _
  refine zk_T.adv 4 (f' := (4, [(0, .ref 43), (1, .ref 20), (2, .int 0), (3, .int 0)], [])) (h' := zH v w t) rfl ?_
  refine zl_keptInAll Mn hM h5 0 _ ?_
  show zk_T zk_mt zk_ex Ls xs zm_31 (27, [(0, .ref 43), (1, .ref 20), (2, .int (zf (zl_keptInAllG (v 51)) Mn 0 0)), (3, .int (nI (0 + Mn)))], []) (zH v w t) _
  refine zk_T.adv 1 (f' := (28, [(0, .ref 43), (1, .ref 20), (2, .int (zf (zl_keptInAllG (v 51)) Mn 0 0)), (3, .int (nI (0 + Mn)))], [.int (zf (zl_keptInAllG (v 51)) Mn 0 0)])) (h' := zH v w t) rfl ?_
  exact zk_T.rt rfl rfl (by rfl)
def zl_busiestG (kp : Nat → Int32) (j : Nat) (s : Nat) : Nat := match s with
  | b => if (kp j) ≤ (kp b) then b else j
theorem zl_busiest (Mn : Nat) (hM : v 20 4 = nI Mn) (h5 : Mn ≤ 5) : ∀ (s : Nat) (q : Option Value × zk_H) (hP0 : s < 5), zk_T zk_mt zk_ex Ls xs zm_29 ((fun (s : Nat) => ((35, [(0, .ref 43), (1, .ref 20), (2, .int (nI s)), (3, .int (nI (1 + (Mn - 1))))], []) : zk_F)) (zf (zl_busiestG (v 51)) (Mn - 1) 1 s)) ((fun (s : Nat) => zH v w t) (zf (zl_busiestG (v 51)) (Mn - 1) 1 s)) q → zk_T zk_mt zk_ex Ls xs zm_29 (4, [(0, .ref 43), (1, .ref 20), (2, .int (nI s)), (3, .int (nI 1))], []) (zH v w t) q := by
  intro s q hP0 hk
  refine zk_forK (M := zm_29) (fun j (s : Nat) => (4, [(0, .ref 43), (1, .ref 20), (2, .int (nI s)), (3, .int (nI j))], [])) (fun _ (s : Nat) => zH v w t) (zl_busiestG (v 51)) (fun _ (b : Nat) => b < 5) (fun (s : Nat) => (35, [(0, .ref 43), (1, .ref 20), (2, .int (nI s)), (3, .int (nI (1 + (Mn - 1))))], [])) (fun (s : Nat) => zH v w t) ((Mn - 1)) 1 s (fun j b hj1 hj2 hp => by simp only [zl_busiestG]; split <;> omega) (fun j s hj1 hj2 hp q hk => ?_) (fun s hp q hk => ?_) ?_ q hk
  · have hz := True.intro
    obtain ⟨b, rfl⟩ : ∃ z, z = s := ⟨_, rfl⟩
    show zk_T zk_mt zk_ex Ls xs zm_29 (4, [(0, .ref 43), (1, .ref 20), (2, .int (nI b)), (3, .int (nI j))], []) (zH v w t) q
    have hp : b < 5 := hp
    refine zk_T.adv 3 (f' := (9, [(0, .ref 43), (1, .ref 20), (2, .int (nI b)), (3, .int (nI j))], [.int (v 20 4), .int (nI j)])) (h' := zH v w t) rfl ?_
    refine zk_T.br (f1 := (35, [(0, .ref 43), (1, .ref 20), (2, .int (nI b)), (3, .int (nI j))], [])) (f2 := (12, [(0, .ref 43), (1, .ref 20), (2, .int (nI b)), (3, .int (nI j))], [])) rfl (fun c1 => absurd (of_decide_eq_true c1) (by rw [hM]; exact nI_ge (show j < Mn by omega) (by omega))) (fun c1 => ?_)
    refine zk_T.adv 3 (f' := (17, [(0, .ref 43), (1, .ref 20), (2, .int (nI b)), (3, .int (nI j))], [.int (nI j), .ref 50])) (h' := zH v w t) rfl ?_
    refine zk_T.ob (f' := (18, [(0, .ref 43), (1, .ref 20), (2, .int (nI b)), (3, .int (nI j))], [.int (v 51 (nI j).toNatClampNeg)])) (h' := zH v w t) rfl (by first | exact zk_inN (by omega) (by decide) | decide) ?_
    rw [nI_clamp (show j < 2 ^ 31 by omega)]
    refine zk_T.adv 3 (f' := (23, [(0, .ref 43), (1, .ref 20), (2, .int (nI b)), (3, .int (nI j))], [.int (nI b), .ref 50, .int (v 51 j)])) (h' := zH v w t) rfl ?_
    refine zk_T.ob (f' := (24, [(0, .ref 43), (1, .ref 20), (2, .int (nI b)), (3, .int (nI j))], [.int (v 51 (nI b).toNatClampNeg), .int (v 51 j)])) (h' := zH v w t) rfl (by first | exact zk_inN (by omega) (by decide) | decide) ?_
    rw [nI_clamp (show b < 2 ^ 31 by omega)]
    refine zk_T.br (f1 := (29, [(0, .ref 43), (1, .ref 20), (2, .int (nI b)), (3, .int (nI j))], [])) (f2 := (27, [(0, .ref 43), (1, .ref 20), (2, .int (nI b)), (3, .int (nI j))], [])) rfl (fun c2 => ?_) (fun c2 => ?_)
    · have c2 : (v 51 j) ≤ (v 51 b) := of_decide_eq_true c2
      refine zk_T.adv 2 (f' := (4, [(0, .ref 43), (1, .ref 20), (2, .int (nI b)), (3, .int ((nI j) + 1))], [])) (h' := zH v w t) rfl ?_
      rw [nI_1]
      simp only [zl_busiestG, if_pos c2] at hk
      exact hk
    · have c2 : ¬ ((v 51 j) ≤ (v 51 b)) := of_decide_eq_false c2
      refine zk_T.adv 4 (f' := (4, [(0, .ref 43), (1, .ref 20), (2, .int (nI j)), (3, .int ((nI j) + 1))], [])) (h' := zH v w t) rfl ?_
      rw [nI_1]
      simp only [zl_busiestG, if_neg c2] at hk
      exact hk
  · have hz := True.intro
    obtain ⟨b, rfl⟩ : ∃ z, z = s := ⟨_, rfl⟩
    show zk_T zk_mt zk_ex Ls xs zm_29 (4, [(0, .ref 43), (1, .ref 20), (2, .int (nI b)), (3, .int (nI (1 + (Mn - 1))))], []) (zH v w t) q
    refine zk_T.adv 3 (f' := (9, [(0, .ref 43), (1, .ref 20), (2, .int (nI b)), (3, .int (nI (1 + (Mn - 1))))], [.int (v 20 4), .int (nI (1 + (Mn - 1)))])) (h' := zH v w t) rfl ?_
    refine zk_T.br (f1 := (35, [(0, .ref 43), (1, .ref 20), (2, .int (nI b)), (3, .int (nI (1 + (Mn - 1))))], [])) (f2 := (12, [(0, .ref 43), (1, .ref 20), (2, .int (nI b)), (3, .int (nI (1 + (Mn - 1))))], [])) rfl (fun c1 => ?_) (fun c1 => absurd (by rw [hM]; exact nI_le (by omega) (by omega)) (of_decide_eq_false c1))
    exact hk
  · exact hP0
def zr_busiest (Mn : Nat) (kp : Nat → Int32) : Int32 := (nI (zf (zl_busiestG (kp)) (Mn - 1) 1 0))
/-- BasketKeep$Outlook.busiestMaker -/
theorem zs_busiestMaker (Mn : Nat) (hM : v 20 4 = nI Mn) (h5 : Mn ≤ 5) : zk_Cr zk_mt zk_ex Ls xs 29 [.ref 43, .ref 20] (zH v w t) (some (.int (zr_busiest Mn (v 51))), zH v w t) := by
  refine zk_Cr.of (K := zm_29) rfl rfl rfl ?_
  show zk_T zk_mt zk_ex Ls xs zm_29 (0, [(0, .ref 43), (1, .ref 20)], []) (zH v w t) _
  refine zk_T.adv 4 (f' := (4, [(0, .ref 43), (1, .ref 20), (2, .int 0), (3, .int 1)], [])) (h' := zH v w t) rfl ?_
  refine zl_busiest Mn hM h5 0 _ (by decide) ?_
  show zk_T zk_mt zk_ex Ls xs zm_29 (35, [(0, .ref 43), (1, .ref 20), (2, .int (nI (zf (zl_busiestG (v 51)) (Mn - 1) 1 0))), (3, .int (nI (1 + (Mn - 1))))], []) (zH v w t) _
  refine zk_T.adv 1 (f' := (36, [(0, .ref 43), (1, .ref 20), (2, .int (nI (zf (zl_busiestG (v 51)) (Mn - 1) 1 0))), (3, .int (nI (1 + (Mn - 1))))], [.int (nI (zf (zl_busiestG (v 51)) (Mn - 1) 1 0))])) (h' := zH v w t) rfl ?_
  exact zk_T.rt rfl rfl (by rfl)
def zl_harmByG (lt wr : Nat → Int32) (d : Int32) (j : Nat) (s : Int32) : Int32 := match s with
  | a => if (lt j) = d then a + (wr j) else a
theorem zl_harmBy (Gn : Nat) (hG : v 20 8 = nI Gn) (h4 : Gn ≤ 4) (d : Int32) : ∀ (s : Int32) (q : Option Value × zk_H), zk_T zk_mt zk_ex Ls xs zm_30 ((fun (s : Int32) => ((41, [(0, .ref 43), (1, .ref 20), (2, .int d), (3, .int s), (4, .int (nI (0 + Gn)))], []) : zk_F)) (zf (zl_harmByG (v 48) (v 26) d) Gn 0 s)) ((fun (s : Int32) => zH v w t) (zf (zl_harmByG (v 48) (v 26) d) Gn 0 s)) q → zk_T zk_mt zk_ex Ls xs zm_30 (5, [(0, .ref 43), (1, .ref 20), (2, .int d), (3, .int s), (4, .int (nI 0))], []) (zH v w t) q := by
  intro s q hk
  refine zk_forK (M := zm_30) (fun j (s : Int32) => (5, [(0, .ref 43), (1, .ref 20), (2, .int d), (3, .int s), (4, .int (nI j))], [])) (fun _ (s : Int32) => zH v w t) (zl_harmByG (v 48) (v 26) d) (fun _ _ => True) (fun (s : Int32) => (41, [(0, .ref 43), (1, .ref 20), (2, .int d), (3, .int s), (4, .int (nI (0 + Gn)))], [])) (fun (s : Int32) => zH v w t) (Gn) 0 s (fun _ _ _ _ _ => trivial) (fun j s hj1 hj2 hp q hk => ?_) (fun s hp q hk => ?_) ?_ q hk
  · have hz := True.intro
    obtain ⟨a, rfl⟩ : ∃ z, z = s := ⟨_, rfl⟩
    show zk_T zk_mt zk_ex Ls xs zm_30 (5, [(0, .ref 43), (1, .ref 20), (2, .int d), (3, .int a), (4, .int (nI j))], []) (zH v w t) q
    refine zk_T.adv 3 (f' := (11, [(0, .ref 43), (1, .ref 20), (2, .int d), (3, .int a), (4, .int (nI j))], [.int (v 20 8), .int (nI j)])) (h' := zH v w t) rfl ?_
    refine zk_T.br (f1 := (41, [(0, .ref 43), (1, .ref 20), (2, .int d), (3, .int a), (4, .int (nI j))], [])) (f2 := (14, [(0, .ref 43), (1, .ref 20), (2, .int d), (3, .int a), (4, .int (nI j))], [])) rfl (fun c1 => absurd (of_decide_eq_true c1) (by rw [hG]; exact nI_ge (show j < Gn by omega) (by omega))) (fun c1 => ?_)
    refine zk_T.adv 3 (f' := (20, [(0, .ref 43), (1, .ref 20), (2, .int d), (3, .int a), (4, .int (nI j))], [.int (nI j), .ref 47])) (h' := zH v w t) rfl ?_
    refine zk_T.ob (f' := (21, [(0, .ref 43), (1, .ref 20), (2, .int d), (3, .int a), (4, .int (nI j))], [.int (v 48 (nI j).toNatClampNeg)])) (h' := zH v w t) rfl (by first | exact zk_inN (by omega) (by decide) | decide) ?_
    rw [nI_clamp (show j < 2 ^ 31 by omega)]
    refine zk_T.adv 1 (f' := (22, [(0, .ref 43), (1, .ref 20), (2, .int d), (3, .int a), (4, .int (nI j))], [.int d, .int (v 48 j)])) (h' := zH v w t) rfl ?_
    refine zk_T.br (f1 := (25, [(0, .ref 43), (1, .ref 20), (2, .int d), (3, .int a), (4, .int (nI j))], [])) (f2 := (35, [(0, .ref 43), (1, .ref 20), (2, .int d), (3, .int a), (4, .int (nI j))], [])) rfl (fun c2 => ?_) (fun c2 => ?_)
    · have c2 : (v 48 j) = d := of_decide_eq_true c2
      refine zk_T.adv 4 (f' := (32, [(0, .ref 43), (1, .ref 20), (2, .int d), (3, .int a), (4, .int (nI j))], [.int (nI j), .ref 26, .int a])) (h' := zH v w t) rfl ?_
      refine zk_T.ob (f' := (33, [(0, .ref 43), (1, .ref 20), (2, .int d), (3, .int a), (4, .int (nI j))], [.int (v 26 (nI j).toNatClampNeg), .int a])) (h' := zH v w t) rfl (by first | exact zk_inN (by omega) (by decide) | decide) ?_
      rw [nI_clamp (show j < 2 ^ 31 by omega)]
      refine zk_T.adv 4 (f' := (5, [(0, .ref 43), (1, .ref 20), (2, .int d), (3, .int (a + (v 26 j))), (4, .int ((nI j) + 1))], [])) (h' := zH v w t) rfl ?_
      rw [nI_1]
      simp only [zl_harmByG, if_pos c2] at hk
      exact hk
    · have c2 : ¬ ((v 48 j) = d) := of_decide_eq_false c2
      refine zk_T.adv 2 (f' := (5, [(0, .ref 43), (1, .ref 20), (2, .int d), (3, .int a), (4, .int ((nI j) + 1))], [])) (h' := zH v w t) rfl ?_
      rw [nI_1]
      simp only [zl_harmByG, if_neg c2] at hk
      exact hk
  · have hz := True.intro
    obtain ⟨a, rfl⟩ : ∃ z, z = s := ⟨_, rfl⟩
    show zk_T zk_mt zk_ex Ls xs zm_30 (5, [(0, .ref 43), (1, .ref 20), (2, .int d), (3, .int a), (4, .int (nI (0 + Gn)))], []) (zH v w t) q
    refine zk_T.adv 3 (f' := (11, [(0, .ref 43), (1, .ref 20), (2, .int d), (3, .int a), (4, .int (nI (0 + Gn)))], [.int (v 20 8), .int (nI (0 + Gn))])) (h' := zH v w t) rfl ?_
    refine zk_T.br (f1 := (41, [(0, .ref 43), (1, .ref 20), (2, .int d), (3, .int a), (4, .int (nI (0 + Gn)))], [])) (f2 := (14, [(0, .ref 43), (1, .ref 20), (2, .int d), (3, .int a), (4, .int (nI (0 + Gn)))], [])) rfl (fun c1 => ?_) (fun c1 => absurd (by rw [hG, Nat.zero_add]; exact nI_le (Nat.le_refl _) (by omega)) (of_decide_eq_false c1))
    exact hk
  · exact trivial
def zr_harmBy (Gn : Nat) (lt wr : Nat → Int32) (d : Int32) : Int32 := (zf (zl_harmByG (lt) (wr) d) Gn 0 0)
/-- BasketKeep$Outlook.harmBy -/
theorem zs_harmBy (Gn : Nat) (hG : v 20 8 = nI Gn) (h4 : Gn ≤ 4) (d : Int32) : zk_Cr zk_mt zk_ex Ls xs 30 [.ref 43, .ref 20, .int d] (zH v w t) (some (.int (zr_harmBy Gn (v 48) (v 26) d)), zH v w t) := by
  refine zk_Cr.of (K := zm_30) rfl rfl rfl ?_
  show zk_T zk_mt zk_ex Ls xs zm_30 (0, [(0, .ref 43), (1, .ref 20), (2, .int d)], []) (zH v w t) _
  refine zk_T.adv 4 (f' := (5, [(0, .ref 43), (1, .ref 20), (2, .int d), (3, .int 0), (4, .int 0)], [])) (h' := zH v w t) rfl ?_
  refine zl_harmBy Gn hG h4 d 0 _ ?_
  show zk_T zk_mt zk_ex Ls xs zm_30 (41, [(0, .ref 43), (1, .ref 20), (2, .int d), (3, .int (zf (zl_harmByG (v 48) (v 26) d) Gn 0 0)), (4, .int (nI (0 + Gn)))], []) (zH v w t) _
  refine zk_T.adv 1 (f' := (42, [(0, .ref 43), (1, .ref 20), (2, .int d), (3, .int (zf (zl_harmByG (v 48) (v 26) d) Gn 0 0)), (4, .int (nI (0 + Gn)))], [.int (zf (zl_harmByG (v 48) (v 26) d) Gn 0 0)])) (h' := zH v w t) rfl ?_
  exact zk_T.rt rfl rfl (by rfl)
def zl_worstG (Gn : Nat) (lt wr : Nat → Int32) (j : Nat) (s : Int32 × Int32) : Int32 × Int32 := match s with
  | (wo, mo) => if (zr_harmBy Gn (lt) (wr) (nI j)) ≤ mo then (wo, mo) else (nI j, zr_harmBy Gn (lt) (wr) (nI j))
theorem zl_worst (D : Nat) (hD : v 20 1 = nI D) (h8 : D ≤ 8) (Gn : Nat) (hG : v 20 8 = nI Gn) (h4 : Gn ≤ 4) : ∀ (s : Int32 × Int32) (q : Option Value × zk_H), zk_T zk_mt zk_ex Ls xs zm_96 ((fun (s : Int32 × Int32) => ((44, [(0, .ref 43), (1, .ref 20), (2, .int s.1), (3, .int s.2), (4, .int (nI (0 + D)))], []) : zk_F)) (zf (zl_worstG Gn (v 48) (v 26)) D 0 s)) ((fun (s : Int32 × Int32) => zH v w t) (zf (zl_worstG Gn (v 48) (v 26)) D 0 s)) q → zk_T zk_mt zk_ex Ls xs zm_96 (8, [(0, .ref 43), (1, .ref 20), (2, .int s.1), (3, .int s.2), (4, .int (nI 0))], []) (zH v w t) q := by
  intro s q hk
  refine zk_forK (M := zm_96) (fun j (s : Int32 × Int32) => (8, [(0, .ref 43), (1, .ref 20), (2, .int s.1), (3, .int s.2), (4, .int (nI j))], [])) (fun _ (s : Int32 × Int32) => zH v w t) (zl_worstG Gn (v 48) (v 26)) (fun _ _ => True) (fun (s : Int32 × Int32) => (44, [(0, .ref 43), (1, .ref 20), (2, .int s.1), (3, .int s.2), (4, .int (nI (0 + D)))], [])) (fun (s : Int32 × Int32) => zH v w t) (D) 0 s (fun _ _ _ _ _ => trivial) (fun j s hj1 hj2 hp q hk => ?_) (fun s hp q hk => ?_) ?_ q hk
  · obtain ⟨wo, mo⟩ := s
    show zk_T zk_mt zk_ex Ls xs zm_96 (8, [(0, .ref 43), (1, .ref 20), (2, .int wo), (3, .int mo), (4, .int (nI j))], []) (zH v w t) q
    refine zk_T.adv 3 (f' := (14, [(0, .ref 43), (1, .ref 20), (2, .int wo), (3, .int mo), (4, .int (nI j))], [.int (v 20 1), .int (nI j)])) (h' := zH v w t) rfl ?_
    refine zk_T.br (f1 := (44, [(0, .ref 43), (1, .ref 20), (2, .int wo), (3, .int mo), (4, .int (nI j))], [])) (f2 := (17, [(0, .ref 43), (1, .ref 20), (2, .int wo), (3, .int mo), (4, .int (nI j))], [])) rfl (fun c1 => absurd (of_decide_eq_true c1) (by rw [hD]; exact nI_ge (show j < D by omega) (by omega))) (fun c1 => ?_)
    refine zk_T.adv 3 (f' := (21, [(0, .ref 43), (1, .ref 20), (2, .int wo), (3, .int mo), (4, .int (nI j))], [.int (nI j), .ref 20, .ref 43])) (h' := zH v w t) rfl ?_
    refine zk_T.cl (v := some (.int (zr_harmBy Gn (v 48) (v 26) (nI j)))) (h' := zH v w t) rfl (zs_harmBy (v := v) Gn hG h4 (nI j)) ?_
    show zk_T zk_mt zk_ex Ls xs zm_96 (24, [(0, .ref 43), (1, .ref 20), (2, .int wo), (3, .int mo), (4, .int (nI j))], [.int (zr_harmBy Gn (v 48) (v 26) (nI j))]) (zH v w t) _
    refine zk_T.adv 3 (f' := (29, [(0, .ref 43), (1, .ref 20), (2, .int wo), (3, .int mo), (4, .int (nI j)), (5, .int (zr_harmBy Gn (v 48) (v 26) (nI j)))], [.int mo, .int (zr_harmBy Gn (v 48) (v 26) (nI j))])) (h' := zH v w t) rfl ?_
    refine zk_T.br (f1 := (38, [(0, .ref 43), (1, .ref 20), (2, .int wo), (3, .int mo), (4, .int (nI j)), (5, .int (zr_harmBy Gn (v 48) (v 26) (nI j)))], [])) (f2 := (32, [(0, .ref 43), (1, .ref 20), (2, .int wo), (3, .int mo), (4, .int (nI j)), (5, .int (zr_harmBy Gn (v 48) (v 26) (nI j)))], [])) rfl (fun c2 => ?_) (fun c2 => ?_)
    · have c2 : (zr_harmBy Gn (v 48) (v 26) (nI j)) ≤ mo := of_decide_eq_true c2
      refine zk_T.adv 2 (f' := (8, [(0, .ref 43), (1, .ref 20), (2, .int wo), (3, .int mo), (4, .int ((nI j) + 1))], [])) (h' := zH v w t) rfl ?_
      rw [nI_1]
      simp only [zl_worstG, if_pos c2] at hk
      exact hk
    · have c2 : ¬ ((zr_harmBy Gn (v 48) (v 26) (nI j)) ≤ mo) := of_decide_eq_false c2
      refine zk_T.adv 6 (f' := (8, [(0, .ref 43), (1, .ref 20), (2, .int (nI j)), (3, .int (zr_harmBy Gn (v 48) (v 26) (nI j))), (4, .int ((nI j) + 1))], [])) (h' := zH v w t) rfl ?_
      rw [nI_1]
      simp only [zl_worstG, if_neg c2] at hk
      exact hk
  · obtain ⟨wo, mo⟩ := s
    show zk_T zk_mt zk_ex Ls xs zm_96 (8, [(0, .ref 43), (1, .ref 20), (2, .int wo), (3, .int mo), (4, .int (nI (0 + D)))], []) (zH v w t) q
    refine zk_T.adv 3 (f' := (14, [(0, .ref 43), (1, .ref 20), (2, .int wo), (3, .int mo), (4, .int (nI (0 + D)))], [.int (v 20 1), .int (nI (0 + D))])) (h' := zH v w t) rfl ?_
    refine zk_T.br (f1 := (44, [(0, .ref 43), (1, .ref 20), (2, .int wo), (3, .int mo), (4, .int (nI (0 + D)))], [])) (f2 := (17, [(0, .ref 43), (1, .ref 20), (2, .int wo), (3, .int mo), (4, .int (nI (0 + D)))], [])) rfl (fun c1 => ?_) (fun c1 => absurd (by rw [hD, Nat.zero_add]; exact nI_le (Nat.le_refl _) (by omega)) (of_decide_eq_false c1))
    exact hk
  · exact trivial
def zr_worst (D Gn : Nat) (lt wr : Nat → Int32) : Int32 := ((zf (zl_worstG Gn (lt) (wr)) D 0 ((-2), 0)).1)
/-- BasketKeep$Outlook.worstDanger -/
theorem zs_worstDanger (D : Nat) (hD : v 20 1 = nI D) (h8 : D ≤ 8) (Gn : Nat) (hG : v 20 8 = nI Gn) (h4 : Gn ≤ 4) : zk_Cr zk_mt zk_ex Ls xs 96 [.ref 43, .ref 20] (zH v w t) (some (.int (zr_worst D Gn (v 48) (v 26))), zH v w t) := by
  refine zk_Cr.of (K := zm_96) rfl rfl rfl ?_
  show zk_T zk_mt zk_ex Ls xs zm_96 (0, [(0, .ref 43), (1, .ref 20)], []) (zH v w t) _
  refine zk_T.adv 6 (f' := (8, [(0, .ref 43), (1, .ref 20), (2, .int (-2)), (3, .int 0), (4, .int 0)], [])) (h' := zH v w t) rfl ?_
  refine zl_worst D hD h8 Gn hG h4 ((-2), 0) _ ?_
  show zk_T zk_mt zk_ex Ls xs zm_96 (44, [(0, .ref 43), (1, .ref 20), (2, .int ((zf (zl_worstG Gn (v 48) (v 26)) D 0 ((-2), 0)).1)), (3, .int ((zf (zl_worstG Gn (v 48) (v 26)) D 0 ((-2), 0)).2)), (4, .int (nI (0 + D)))], []) (zH v w t) _
  refine zk_T.adv 1 (f' := (45, [(0, .ref 43), (1, .ref 20), (2, .int ((zf (zl_worstG Gn (v 48) (v 26)) D 0 ((-2), 0)).1)), (3, .int ((zf (zl_worstG Gn (v 48) (v 26)) D 0 ((-2), 0)).2)), (4, .int (nI (0 + D)))], [.int ((zf (zl_worstG Gn (v 48) (v 26)) D 0 ((-2), 0)).1)])) (h' := zH v w t) rfl ?_
  exact zk_T.rt rfl rfl (by rfl)
/-- BasketKeep.fault -/
theorem zK_fault  : zk_Cr zk_mt zk_ex Ls xs 4 [.ref 0] (zH v w t) (some (.int (v 1 9)), zH v w t) := by
  refine zk_Cr.of (K := zm_4) rfl rfl rfl ?_
  show zk_T zk_mt zk_ex Ls xs zm_4 (0, [(0, .ref 0)], []) (zH v w t) _
  refine zk_T.adv 3 (f' := (7, [(0, .ref 0)], [.int (v 1 9)])) (h' := zH v w t) rfl ?_
  exact zk_T.rt rfl rfl (by rfl)
/-- BasketKeep.trouble -/
theorem zK_trouble  : zk_Cr zk_mt zk_ex Ls xs 7 [.ref 0] (zH v w t) (some (.int (v 0 10)), zH v w t) := by
  refine zk_Cr.of (K := zm_7) rfl rfl rfl ?_
  show zk_T zk_mt zk_ex Ls xs zm_7 (0, [(0, .ref 0)], []) (zH v w t) _
  refine zk_T.adv 2 (f' := (4, [(0, .ref 0)], [.int (v 0 10)])) (h' := zH v w t) rfl ?_
  exact zk_T.rt rfl rfl (by rfl)
def zr_whereK (tr pl : Int32) : Int32 := if tr = 4 then pl else (-1)
/-- BasketKeep.where -/
theorem zK_where  : zk_Cr zk_mt zk_ex Ls xs 8 [.ref 0] (zH v w t) (some (.int (zr_whereK (v 0 10) (v 1 10))), zH v w t) := by
  refine zk_Cr.of (K := zm_8) rfl rfl rfl ?_
  show zk_T zk_mt zk_ex Ls xs zm_8 (0, [(0, .ref 0)], []) (zH v w t) _
  refine zk_T.adv 3 (f' := (5, [(0, .ref 0)], [.int 4, .int (v 0 10)])) (h' := zH v w t) rfl ?_
  refine zk_T.br (f1 := (8, [(0, .ref 0)], [])) (f2 := (18, [(0, .ref 0)], [])) rfl (fun c1 => ?_) (fun c1 => ?_)
  · have c1 : (v 0 10) = 4 := of_decide_eq_true c1
    refine zk_T.adv 4 (f' := (19, [(0, .ref 0)], [.int (v 1 10)])) (h' := zH v w t) rfl ?_
    exact zk_T.rt rfl rfl (by simp only [zr_whereK, if_pos c1])
  · have c1 : ¬ ((v 0 10) = 4) := of_decide_eq_false c1
    refine zk_T.adv 1 (f' := (19, [(0, .ref 0)], [.int (-1)])) (h' := zH v w t) rfl ?_
    exact zk_T.rt rfl rfl (by simp only [zr_whereK, if_neg c1])
/-- BasketKeep.worth -/
theorem zK_worth_t (hst : v 0 2 = 0) : zk_Cr zk_mt zk_ex Ls xs 283 [.ref 0] (zH v w t) (some (.int (-1)), zH (zb v 0 (upd (v 0) 10 1)) w t) := by
  refine zk_Cr.of (K := zm_283) rfl rfl rfl ?_
  show zk_T zk_mt zk_ex Ls xs zm_283 (0, [(0, .ref 0)], []) (zH v w t) _
  refine zk_T.adv 1 (f' := (1, [(0, .ref 0)], [.ref 0])) (h' := zH v w t) rfl ?_
  refine zk_T.cl (v := some (.int 1)) (h' := zH (zb v 0 (upd (v 0) 10 1)) w t) rfl (zs_noLevel_t (v := v) hst) ?_
  show zk_T zk_mt zk_ex Ls xs zm_283 (4, [(0, .ref 0)], [.int 1]) (zH (zb v 0 (upd (v 0) 10 1)) w t) _
  refine zk_T.br (f1 := (7, [(0, .ref 0)], [])) (f2 := (15, [(0, .ref 0)], [])) rfl (fun c1 => absurd (of_decide_eq_true c1) (by decide)) (fun c1 => ?_)
  refine zk_T.adv 2 (f' := (26, [(0, .ref 0)], [.int (-1)])) (h' := zH (zb v 0 (upd (v 0) 10 1)) w t) rfl ?_
  exact zk_T.rt rfl rfl (by rfl)
/-- BasketKeep.worth -/
theorem zK_worth_f (hst : v 0 2 = 1) (D : Nat) (hD : v 20 1 = nI D) (h8 : D ≤ 8) (Mn : Nat) (hM : v 20 4 = nI Mn) (h5 : Mn ≤ 5) (Gn : Nat) (hG : v 20 8 = nI Gn) (h4 : Gn ≤ 4) (hli : ∀ a, a < Gn → v 33 a < 0 ∨ ∃ e, e < 5 ∧ v 33 a = nI e) (hkd : ∀ e, e < 5 → v 23 e = 0 ∨ v 23 e = 1 ∨ v 23 e = 2)  : zk_Cr zk_mt zk_ex Ls xs 283 [.ref 0] (zH v w t) (some (.int ((zvR_now (zb v 0 (upd (v 0) 10 0)) D Mn Gn 0) 43 2)), zH (zvR_now (zb v 0 (upd (v 0) 10 0)) D Mn Gn 0) w t) := by
  refine zk_Cr.of (K := zm_283) rfl rfl rfl ?_
  show zk_T zk_mt zk_ex Ls xs zm_283 (0, [(0, .ref 0)], []) (zH v w t) _
  refine zk_T.adv 1 (f' := (1, [(0, .ref 0)], [.ref 0])) (h' := zH v w t) rfl ?_
  refine zk_T.cl (v := some (.int 0)) (h' := zH (zb v 0 (upd (v 0) 10 0)) w t) rfl (zs_noLevel_f (v := v) hst) ?_
  show zk_T zk_mt zk_ex Ls xs zm_283 (4, [(0, .ref 0)], [.int 0]) (zH (zb v 0 (upd (v 0) 10 0)) w t) _
  refine zk_T.br (f1 := (7, [(0, .ref 0)], [])) (f2 := (15, [(0, .ref 0)], [])) rfl (fun c1 => ?_) (fun c1 => absurd (by decide) (of_decide_eq_false c1))
  refine zk_T.adv 2 (f' := (9, [(0, .ref 0)], [.int 0, .ref 0])) (h' := zH (zb v 0 (upd (v 0) 10 0)) w t) rfl ?_
  refine zk_T.cl (v := some (.int 0)) (h' := zH (zvR_now (zb v 0 (upd (v 0) 10 0)) D Mn Gn 0) w t) rfl (zs_cf_f (v := (zb v 0 (upd (v 0) 10 0))) D hD h8 Mn hM h5 Gn hG h4 hli hkd 0 (by omega)) ?_
  show zk_T zk_mt zk_ex Ls xs zm_283 (12, [(0, .ref 0)], [.int 0]) (zH (zvR_now (zb v 0 (upd (v 0) 10 0)) D Mn Gn 0) w t) _
  refine zk_T.br (f1 := (19, [(0, .ref 0)], [])) (f2 := (15, [(0, .ref 0)], [])) rfl (fun c2 => ?_) (fun c2 => absurd (by decide) (of_decide_eq_false c2))
  refine zk_T.adv 3 (f' := (26, [(0, .ref 0)], [.int ((zvR_now (zb v 0 (upd (v 0) 10 0)) D Mn Gn 0) 43 2)])) (h' := zH (zvR_now (zb v 0 (upd (v 0) 10 0)) D Mn Gn 0) w t) rfl ?_
  exact zk_T.rt rfl rfl (by rfl)
/-- BasketKeep.worthIn -/
theorem zK_worthIn_t (x : Int32) (hst : v 0 2 = 0) : zk_Cr zk_mt zk_ex Ls xs 284 [.ref 0, .int x] (zH v w t) (some (.int (-1)), zH (zb v 0 (upd (v 0) 10 1)) w t) := by
  refine zk_Cr.of (K := zm_284) rfl rfl rfl ?_
  show zk_T zk_mt zk_ex Ls xs zm_284 (0, [(0, .ref 0), (1, .int x)], []) (zH v w t) _
  refine zk_T.adv 1 (f' := (1, [(0, .ref 0), (1, .int x)], [.ref 0])) (h' := zH v w t) rfl ?_
  refine zk_T.cl (v := some (.int 1)) (h' := zH (zb v 0 (upd (v 0) 10 1)) w t) rfl (zs_noLevel_t (v := v) hst) ?_
  show zk_T zk_mt zk_ex Ls xs zm_284 (4, [(0, .ref 0), (1, .int x)], [.int 1]) (zH (zb v 0 (upd (v 0) 10 1)) w t) _
  refine zk_T.br (f1 := (7, [(0, .ref 0), (1, .int x)], [])) (f2 := (15, [(0, .ref 0), (1, .int x)], [])) rfl (fun c1 => absurd (of_decide_eq_true c1) (by decide)) (fun c1 => ?_)
  refine zk_T.adv 2 (f' := (26, [(0, .ref 0), (1, .int x)], [.int (-1)])) (h' := zH (zb v 0 (upd (v 0) 10 1)) w t) rfl ?_
  exact zk_T.rt rfl rfl (by rfl)
/-- BasketKeep.worthIn -/
theorem zK_worthIn_o (x : Int32) (hst : v 0 2 = 1) (ho : x < 0 ∨ 60 < x) : zk_Cr zk_mt zk_ex Ls xs 284 [.ref 0, .int x] (zH v w t) (some (.int (-1)), zH (zb v 0 (upd (v 0) 10 2)) w t) := by
  refine zk_Cr.of (K := zm_284) rfl rfl rfl ?_
  show zk_T zk_mt zk_ex Ls xs zm_284 (0, [(0, .ref 0), (1, .int x)], []) (zH v w t) _
  refine zk_T.adv 1 (f' := (1, [(0, .ref 0), (1, .int x)], [.ref 0])) (h' := zH v w t) rfl ?_
  refine zk_T.cl (v := some (.int 0)) (h' := zH (zb v 0 (upd (v 0) 10 0)) w t) rfl (zs_noLevel_f (v := v) hst) ?_
  show zk_T zk_mt zk_ex Ls xs zm_284 (4, [(0, .ref 0), (1, .int x)], [.int 0]) (zH (zb v 0 (upd (v 0) 10 0)) w t) _
  refine zk_T.br (f1 := (7, [(0, .ref 0), (1, .int x)], [])) (f2 := (15, [(0, .ref 0), (1, .int x)], [])) rfl (fun c1 => ?_) (fun c1 => absurd (by decide) (of_decide_eq_false c1))
  refine zk_T.adv 2 (f' := (9, [(0, .ref 0), (1, .int x)], [.int x, .ref 0])) (h' := zH (zb v 0 (upd (v 0) 10 0)) w t) rfl ?_
  refine zk_T.cl (v := some (.int 1)) (h' := zH (zb v 0 (upd (v 0) 10 2)) w t) rfl (zs_cf_t x ho) ?_
  show zk_T zk_mt zk_ex Ls xs zm_284 (12, [(0, .ref 0), (1, .int x)], [.int 1]) (zH (zb v 0 (upd (v 0) 10 2)) w t) _
  refine zk_T.br (f1 := (19, [(0, .ref 0), (1, .int x)], [])) (f2 := (15, [(0, .ref 0), (1, .int x)], [])) rfl (fun c2 => absurd (of_decide_eq_true c2) (by decide)) (fun c2 => ?_)
  refine zk_T.adv 2 (f' := (26, [(0, .ref 0), (1, .int x)], [.int (-1)])) (h' := zH (zb v 0 (upd (v 0) 10 2)) w t) rfl ?_
  exact zk_T.rt rfl rfl (by rfl)
/-- BasketKeep.worthIn -/
theorem zK_worthIn_f (hst : v 0 2 = 1) (D : Nat) (hD : v 20 1 = nI D) (h8 : D ≤ 8) (Mn : Nat) (hM : v 20 4 = nI Mn) (h5 : Mn ≤ 5) (Gn : Nat) (hG : v 20 8 = nI Gn) (h4 : Gn ≤ 4) (hli : ∀ a, a < Gn → v 33 a < 0 ∨ ∃ e, e < 5 ∧ v 33 a = nI e) (hkd : ∀ e, e < 5 → v 23 e = 0 ∨ v 23 e = 1 ∨ v 23 e = 2) (sp : Nat) (hsp : sp ≤ 60) : zk_Cr zk_mt zk_ex Ls xs 284 [.ref 0, .int (nI sp)] (zH v w t) (some (.int ((zvR_now (zb v 0 (upd (v 0) 10 0)) D Mn Gn sp) 43 2)), zH (zvR_now (zb v 0 (upd (v 0) 10 0)) D Mn Gn sp) w t) := by
  refine zk_Cr.of (K := zm_284) rfl rfl rfl ?_
  show zk_T zk_mt zk_ex Ls xs zm_284 (0, [(0, .ref 0), (1, .int (nI sp))], []) (zH v w t) _
  refine zk_T.adv 1 (f' := (1, [(0, .ref 0), (1, .int (nI sp))], [.ref 0])) (h' := zH v w t) rfl ?_
  refine zk_T.cl (v := some (.int 0)) (h' := zH (zb v 0 (upd (v 0) 10 0)) w t) rfl (zs_noLevel_f (v := v) hst) ?_
  show zk_T zk_mt zk_ex Ls xs zm_284 (4, [(0, .ref 0), (1, .int (nI sp))], [.int 0]) (zH (zb v 0 (upd (v 0) 10 0)) w t) _
  refine zk_T.br (f1 := (7, [(0, .ref 0), (1, .int (nI sp))], [])) (f2 := (15, [(0, .ref 0), (1, .int (nI sp))], [])) rfl (fun c1 => ?_) (fun c1 => absurd (by decide) (of_decide_eq_false c1))
  refine zk_T.adv 2 (f' := (9, [(0, .ref 0), (1, .int (nI sp))], [.int (nI sp), .ref 0])) (h' := zH (zb v 0 (upd (v 0) 10 0)) w t) rfl ?_
  refine zk_T.cl (v := some (.int 0)) (h' := zH (zvR_now (zb v 0 (upd (v 0) 10 0)) D Mn Gn sp) w t) rfl (zs_cf_f (v := (zb v 0 (upd (v 0) 10 0))) D hD h8 Mn hM h5 Gn hG h4 hli hkd sp (by omega)) ?_
  show zk_T zk_mt zk_ex Ls xs zm_284 (12, [(0, .ref 0), (1, .int (nI sp))], [.int 0]) (zH (zvR_now (zb v 0 (upd (v 0) 10 0)) D Mn Gn sp) w t) _
  refine zk_T.br (f1 := (19, [(0, .ref 0), (1, .int (nI sp))], [])) (f2 := (15, [(0, .ref 0), (1, .int (nI sp))], [])) rfl (fun c2 => ?_) (fun c2 => absurd (by decide) (of_decide_eq_false c2))
  refine zk_T.adv 3 (f' := (26, [(0, .ref 0), (1, .int (nI sp))], [.int ((zvR_now (zb v 0 (upd (v 0) 10 0)) D Mn Gn sp) 43 2)])) (h' := zH (zvR_now (zb v 0 (upd (v 0) 10 0)) D Mn Gn sp) w t) rfl ?_
  exact zk_T.rt rfl rfl (by rfl)
/-- BasketKeep.lost -/
theorem zK_lost_t (x : Int32) (hst : v 0 2 = 0) : zk_Cr zk_mt zk_ex Ls xs 278 [.ref 0, .int x] (zH v w t) (some (.int (-1)), zH (zb v 0 (upd (v 0) 10 1)) w t) := by
  refine zk_Cr.of (K := zm_278) rfl rfl rfl ?_
  show zk_T zk_mt zk_ex Ls xs zm_278 (0, [(0, .ref 0), (1, .int x)], []) (zH v w t) _
  refine zk_T.adv 1 (f' := (1, [(0, .ref 0), (1, .int x)], [.ref 0])) (h' := zH v w t) rfl ?_
  refine zk_T.cl (v := some (.int 1)) (h' := zH (zb v 0 (upd (v 0) 10 1)) w t) rfl (zs_noLevel_t (v := v) hst) ?_
  show zk_T zk_mt zk_ex Ls xs zm_278 (4, [(0, .ref 0), (1, .int x)], [.int 1]) (zH (zb v 0 (upd (v 0) 10 1)) w t) _
  refine zk_T.br (f1 := (7, [(0, .ref 0), (1, .int x)], [])) (f2 := (15, [(0, .ref 0), (1, .int x)], [])) rfl (fun c1 => absurd (of_decide_eq_true c1) (by decide)) (fun c1 => ?_)
  refine zk_T.adv 2 (f' := (26, [(0, .ref 0), (1, .int x)], [.int (-1)])) (h' := zH (zb v 0 (upd (v 0) 10 1)) w t) rfl ?_
  exact zk_T.rt rfl rfl (by rfl)
/-- BasketKeep.lost -/
theorem zK_lost_o (x : Int32) (hst : v 0 2 = 1) (ho : x < 0 ∨ 60 < x) : zk_Cr zk_mt zk_ex Ls xs 278 [.ref 0, .int x] (zH v w t) (some (.int (-1)), zH (zb v 0 (upd (v 0) 10 2)) w t) := by
  refine zk_Cr.of (K := zm_278) rfl rfl rfl ?_
  show zk_T zk_mt zk_ex Ls xs zm_278 (0, [(0, .ref 0), (1, .int x)], []) (zH v w t) _
  refine zk_T.adv 1 (f' := (1, [(0, .ref 0), (1, .int x)], [.ref 0])) (h' := zH v w t) rfl ?_
  refine zk_T.cl (v := some (.int 0)) (h' := zH (zb v 0 (upd (v 0) 10 0)) w t) rfl (zs_noLevel_f (v := v) hst) ?_
  show zk_T zk_mt zk_ex Ls xs zm_278 (4, [(0, .ref 0), (1, .int x)], [.int 0]) (zH (zb v 0 (upd (v 0) 10 0)) w t) _
  refine zk_T.br (f1 := (7, [(0, .ref 0), (1, .int x)], [])) (f2 := (15, [(0, .ref 0), (1, .int x)], [])) rfl (fun c1 => ?_) (fun c1 => absurd (by decide) (of_decide_eq_false c1))
  refine zk_T.adv 2 (f' := (9, [(0, .ref 0), (1, .int x)], [.int x, .ref 0])) (h' := zH (zb v 0 (upd (v 0) 10 0)) w t) rfl ?_
  refine zk_T.cl (v := some (.int 1)) (h' := zH (zb v 0 (upd (v 0) 10 2)) w t) rfl (zs_cf_t x ho) ?_
  show zk_T zk_mt zk_ex Ls xs zm_278 (12, [(0, .ref 0), (1, .int x)], [.int 1]) (zH (zb v 0 (upd (v 0) 10 2)) w t) _
  refine zk_T.br (f1 := (19, [(0, .ref 0), (1, .int x)], [])) (f2 := (15, [(0, .ref 0), (1, .int x)], [])) rfl (fun c2 => absurd (of_decide_eq_true c2) (by decide)) (fun c2 => ?_)
  refine zk_T.adv 2 (f' := (26, [(0, .ref 0), (1, .int x)], [.int (-1)])) (h' := zH (zb v 0 (upd (v 0) 10 2)) w t) rfl ?_
  exact zk_T.rt rfl rfl (by rfl)
/-- BasketKeep.lost -/
theorem zK_lost_f (hst : v 0 2 = 1) (D : Nat) (hD : v 20 1 = nI D) (h8 : D ≤ 8) (Mn : Nat) (hM : v 20 4 = nI Mn) (h5 : Mn ≤ 5) (Gn : Nat) (hG : v 20 8 = nI Gn) (h4 : Gn ≤ 4) (hli : ∀ a, a < Gn → v 33 a < 0 ∨ ∃ e, e < 5 ∧ v 33 a = nI e) (hkd : ∀ e, e < 5 → v 23 e = 0 ∨ v 23 e = 1 ∨ v 23 e = 2) (sp : Nat) (hsp : sp ≤ 60) : zk_Cr zk_mt zk_ex Ls xs 278 [.ref 0, .int (nI sp)] (zH v w t) (some (.int ((zvR_now (zb v 0 (upd (v 0) 10 0)) D Mn Gn sp) 43 3)), zH (zvR_now (zb v 0 (upd (v 0) 10 0)) D Mn Gn sp) w t) := by
  refine zk_Cr.of (K := zm_278) rfl rfl rfl ?_
  show zk_T zk_mt zk_ex Ls xs zm_278 (0, [(0, .ref 0), (1, .int (nI sp))], []) (zH v w t) _
  refine zk_T.adv 1 (f' := (1, [(0, .ref 0), (1, .int (nI sp))], [.ref 0])) (h' := zH v w t) rfl ?_
  refine zk_T.cl (v := some (.int 0)) (h' := zH (zb v 0 (upd (v 0) 10 0)) w t) rfl (zs_noLevel_f (v := v) hst) ?_
  show zk_T zk_mt zk_ex Ls xs zm_278 (4, [(0, .ref 0), (1, .int (nI sp))], [.int 0]) (zH (zb v 0 (upd (v 0) 10 0)) w t) _
  refine zk_T.br (f1 := (7, [(0, .ref 0), (1, .int (nI sp))], [])) (f2 := (15, [(0, .ref 0), (1, .int (nI sp))], [])) rfl (fun c1 => ?_) (fun c1 => absurd (by decide) (of_decide_eq_false c1))
  refine zk_T.adv 2 (f' := (9, [(0, .ref 0), (1, .int (nI sp))], [.int (nI sp), .ref 0])) (h' := zH (zb v 0 (upd (v 0) 10 0)) w t) rfl ?_
  refine zk_T.cl (v := some (.int 0)) (h' := zH (zvR_now (zb v 0 (upd (v 0) 10 0)) D Mn Gn sp) w t) rfl (zs_cf_f (v := (zb v 0 (upd (v 0) 10 0))) D hD h8 Mn hM h5 Gn hG h4 hli hkd sp (by omega)) ?_
  show zk_T zk_mt zk_ex Ls xs zm_278 (12, [(0, .ref 0), (1, .int (nI sp))], [.int 0]) (zH (zvR_now (zb v 0 (upd (v 0) 10 0)) D Mn Gn sp) w t) _
  refine zk_T.br (f1 := (19, [(0, .ref 0), (1, .int (nI sp))], [])) (f2 := (15, [(0, .ref 0), (1, .int (nI sp))], [])) rfl (fun c2 => ?_) (fun c2 => absurd (by decide) (of_decide_eq_false c2))
  refine zk_T.adv 3 (f' := (26, [(0, .ref 0), (1, .int (nI sp))], [.int ((zvR_now (zb v 0 (upd (v 0) 10 0)) D Mn Gn sp) 43 3)])) (h' := zH (zvR_now (zb v 0 (upd (v 0) 10 0)) D Mn Gn sp) w t) rfl ?_
  exact zk_T.rt rfl rfl (by rfl)
/-- BasketKeep.keptOut -/
theorem zK_keptOut_t (x : Int32) (hst : v 0 2 = 0) : zk_Cr zk_mt zk_ex Ls xs 276 [.ref 0, .int x] (zH v w t) (some (.int (-1)), zH (zb v 0 (upd (v 0) 10 1)) w t) := by
  refine zk_Cr.of (K := zm_276) rfl rfl rfl ?_
  show zk_T zk_mt zk_ex Ls xs zm_276 (0, [(0, .ref 0), (1, .int x)], []) (zH v w t) _
  refine zk_T.adv 1 (f' := (1, [(0, .ref 0), (1, .int x)], [.ref 0])) (h' := zH v w t) rfl ?_
  refine zk_T.cl (v := some (.int 1)) (h' := zH (zb v 0 (upd (v 0) 10 1)) w t) rfl (zs_noLevel_t (v := v) hst) ?_
  show zk_T zk_mt zk_ex Ls xs zm_276 (4, [(0, .ref 0), (1, .int x)], [.int 1]) (zH (zb v 0 (upd (v 0) 10 1)) w t) _
  refine zk_T.br (f1 := (7, [(0, .ref 0), (1, .int x)], [])) (f2 := (15, [(0, .ref 0), (1, .int x)], [])) rfl (fun c1 => absurd (of_decide_eq_true c1) (by decide)) (fun c1 => ?_)
  refine zk_T.adv 2 (f' := (30, [(0, .ref 0), (1, .int x)], [.int (-1)])) (h' := zH (zb v 0 (upd (v 0) 10 1)) w t) rfl ?_
  exact zk_T.rt rfl rfl (by rfl)
/-- BasketKeep.keptOut -/
theorem zK_keptOut_o (x : Int32) (hst : v 0 2 = 1) (ho : x < 0 ∨ 60 < x) : zk_Cr zk_mt zk_ex Ls xs 276 [.ref 0, .int x] (zH v w t) (some (.int (-1)), zH (zb v 0 (upd (v 0) 10 2)) w t) := by
  refine zk_Cr.of (K := zm_276) rfl rfl rfl ?_
  show zk_T zk_mt zk_ex Ls xs zm_276 (0, [(0, .ref 0), (1, .int x)], []) (zH v w t) _
  refine zk_T.adv 1 (f' := (1, [(0, .ref 0), (1, .int x)], [.ref 0])) (h' := zH v w t) rfl ?_
  refine zk_T.cl (v := some (.int 0)) (h' := zH (zb v 0 (upd (v 0) 10 0)) w t) rfl (zs_noLevel_f (v := v) hst) ?_
  show zk_T zk_mt zk_ex Ls xs zm_276 (4, [(0, .ref 0), (1, .int x)], [.int 0]) (zH (zb v 0 (upd (v 0) 10 0)) w t) _
  refine zk_T.br (f1 := (7, [(0, .ref 0), (1, .int x)], [])) (f2 := (15, [(0, .ref 0), (1, .int x)], [])) rfl (fun c1 => ?_) (fun c1 => absurd (by decide) (of_decide_eq_false c1))
  refine zk_T.adv 2 (f' := (9, [(0, .ref 0), (1, .int x)], [.int x, .ref 0])) (h' := zH (zb v 0 (upd (v 0) 10 0)) w t) rfl ?_
  refine zk_T.cl (v := some (.int 1)) (h' := zH (zb v 0 (upd (v 0) 10 2)) w t) rfl (zs_cf_t x ho) ?_
  show zk_T zk_mt zk_ex Ls xs zm_276 (12, [(0, .ref 0), (1, .int x)], [.int 1]) (zH (zb v 0 (upd (v 0) 10 2)) w t) _
  refine zk_T.br (f1 := (19, [(0, .ref 0), (1, .int x)], [])) (f2 := (15, [(0, .ref 0), (1, .int x)], [])) rfl (fun c2 => absurd (of_decide_eq_true c2) (by decide)) (fun c2 => ?_)
  refine zk_T.adv 2 (f' := (30, [(0, .ref 0), (1, .int x)], [.int (-1)])) (h' := zH (zb v 0 (upd (v 0) 10 2)) w t) rfl ?_
  exact zk_T.rt rfl rfl (by rfl)
/-- BasketKeep.keptOut -/
theorem zK_keptOut_f (hst : v 0 2 = 1) (D : Nat) (hD : v 20 1 = nI D) (h8 : D ≤ 8) (Mn : Nat) (hM : v 20 4 = nI Mn) (h5 : Mn ≤ 5) (Gn : Nat) (hG : v 20 8 = nI Gn) (h4 : Gn ≤ 4) (hli : ∀ a, a < Gn → v 33 a < 0 ∨ ∃ e, e < 5 ∧ v 33 a = nI e) (hkd : ∀ e, e < 5 → v 23 e = 0 ∨ v 23 e = 1 ∨ v 23 e = 2) (sp : Nat) (hsp : sp ≤ 60) : zk_Cr zk_mt zk_ex Ls xs 276 [.ref 0, .int (nI sp)] (zH v w t) (some (.int (zr_keptInAll Mn ((zvR_now (zb v 0 (upd (v 0) 10 0)) D Mn Gn sp) 51))), zH (zvR_now (zb v 0 (upd (v 0) 10 0)) D Mn Gn sp) w t) := by
  refine zk_Cr.of (K := zm_276) rfl rfl rfl ?_
  show zk_T zk_mt zk_ex Ls xs zm_276 (0, [(0, .ref 0), (1, .int (nI sp))], []) (zH v w t) _
  refine zk_T.adv 1 (f' := (1, [(0, .ref 0), (1, .int (nI sp))], [.ref 0])) (h' := zH v w t) rfl ?_
  refine zk_T.cl (v := some (.int 0)) (h' := zH (zb v 0 (upd (v 0) 10 0)) w t) rfl (zs_noLevel_f (v := v) hst) ?_
  show zk_T zk_mt zk_ex Ls xs zm_276 (4, [(0, .ref 0), (1, .int (nI sp))], [.int 0]) (zH (zb v 0 (upd (v 0) 10 0)) w t) _
  refine zk_T.br (f1 := (7, [(0, .ref 0), (1, .int (nI sp))], [])) (f2 := (15, [(0, .ref 0), (1, .int (nI sp))], [])) rfl (fun c1 => ?_) (fun c1 => absurd (by decide) (of_decide_eq_false c1))
  refine zk_T.adv 2 (f' := (9, [(0, .ref 0), (1, .int (nI sp))], [.int (nI sp), .ref 0])) (h' := zH (zb v 0 (upd (v 0) 10 0)) w t) rfl ?_
  refine zk_T.cl (v := some (.int 0)) (h' := zH (zvR_now (zb v 0 (upd (v 0) 10 0)) D Mn Gn sp) w t) rfl (zs_cf_f (v := (zb v 0 (upd (v 0) 10 0))) D hD h8 Mn hM h5 Gn hG h4 hli hkd sp (by omega)) ?_
  show zk_T zk_mt zk_ex Ls xs zm_276 (12, [(0, .ref 0), (1, .int (nI sp))], [.int 0]) (zH (zvR_now (zb v 0 (upd (v 0) 10 0)) D Mn Gn sp) w t) _
  refine zk_T.br (f1 := (19, [(0, .ref 0), (1, .int (nI sp))], [])) (f2 := (15, [(0, .ref 0), (1, .int (nI sp))], [])) rfl (fun c2 => ?_) (fun c2 => absurd (by decide) (of_decide_eq_false c2))
  refine zk_T.adv 4 (f' := (27, [(0, .ref 0), (1, .int (nI sp))], [.ref 20, .ref 43])) (h' := zH (zvR_now (zb v 0 (upd (v 0) 10 0)) D Mn Gn sp) w t) rfl ?_
  refine zk_T.cl (v := some (.int (zr_keptInAll Mn ((zvR_now (zb v 0 (upd (v 0) 10 0)) D Mn Gn sp) 51)))) (h' := zH (zvR_now (zb v 0 (upd (v 0) 10 0)) D Mn Gn sp) w t) rfl (zs_keptInAll (v := (zvR_now (zb v 0 (upd (v 0) 10 0)) D Mn Gn sp)) Mn hM h5) ?_
  show zk_T zk_mt zk_ex Ls xs zm_276 (30, [(0, .ref 0), (1, .int (nI sp))], [.int (zr_keptInAll Mn ((zvR_now (zb v 0 (upd (v 0) 10 0)) D Mn Gn sp) 51))]) (zH (zvR_now (zb v 0 (upd (v 0) 10 0)) D Mn Gn sp) w t) _
  exact zk_T.rt rfl rfl (by rfl)
/-- BasketKeep.busiest -/
theorem zK_busiest_t (x : Int32) (hst : v 0 2 = 0) : zk_Cr zk_mt zk_ex Ls xs 275 [.ref 0, .int x] (zH v w t) (some (.int (-1)), zH (zb v 0 (upd (v 0) 10 1)) w t) := by
  refine zk_Cr.of (K := zm_275) rfl rfl rfl ?_
  show zk_T zk_mt zk_ex Ls xs zm_275 (0, [(0, .ref 0), (1, .int x)], []) (zH v w t) _
  refine zk_T.adv 1 (f' := (1, [(0, .ref 0), (1, .int x)], [.ref 0])) (h' := zH v w t) rfl ?_
  refine zk_T.cl (v := some (.int 1)) (h' := zH (zb v 0 (upd (v 0) 10 1)) w t) rfl (zs_noLevel_t (v := v) hst) ?_
  show zk_T zk_mt zk_ex Ls xs zm_275 (4, [(0, .ref 0), (1, .int x)], [.int 1]) (zH (zb v 0 (upd (v 0) 10 1)) w t) _
  refine zk_T.br (f1 := (7, [(0, .ref 0), (1, .int x)], [])) (f2 := (15, [(0, .ref 0), (1, .int x)], [])) rfl (fun c1 => absurd (of_decide_eq_true c1) (by decide)) (fun c1 => ?_)
  refine zk_T.adv 2 (f' := (30, [(0, .ref 0), (1, .int x)], [.int (-1)])) (h' := zH (zb v 0 (upd (v 0) 10 1)) w t) rfl ?_
  exact zk_T.rt rfl rfl (by rfl)
/-- BasketKeep.busiest -/
theorem zK_busiest_o (x : Int32) (hst : v 0 2 = 1) (ho : x < 0 ∨ 60 < x) : zk_Cr zk_mt zk_ex Ls xs 275 [.ref 0, .int x] (zH v w t) (some (.int (-1)), zH (zb v 0 (upd (v 0) 10 2)) w t) := by
  refine zk_Cr.of (K := zm_275) rfl rfl rfl ?_
  show zk_T zk_mt zk_ex Ls xs zm_275 (0, [(0, .ref 0), (1, .int x)], []) (zH v w t) _
  refine zk_T.adv 1 (f' := (1, [(0, .ref 0), (1, .int x)], [.ref 0])) (h' := zH v w t) rfl ?_
  refine zk_T.cl (v := some (.int 0)) (h' := zH (zb v 0 (upd (v 0) 10 0)) w t) rfl (zs_noLevel_f (v := v) hst) ?_
  show zk_T zk_mt zk_ex Ls xs zm_275 (4, [(0, .ref 0), (1, .int x)], [.int 0]) (zH (zb v 0 (upd (v 0) 10 0)) w t) _
  refine zk_T.br (f1 := (7, [(0, .ref 0), (1, .int x)], [])) (f2 := (15, [(0, .ref 0), (1, .int x)], [])) rfl (fun c1 => ?_) (fun c1 => absurd (by decide) (of_decide_eq_false c1))
  refine zk_T.adv 2 (f' := (9, [(0, .ref 0), (1, .int x)], [.int x, .ref 0])) (h' := zH (zb v 0 (upd (v 0) 10 0)) w t) rfl ?_
  refine zk_T.cl (v := some (.int 1)) (h' := zH (zb v 0 (upd (v 0) 10 2)) w t) rfl (zs_cf_t x ho) ?_
  show zk_T zk_mt zk_ex Ls xs zm_275 (12, [(0, .ref 0), (1, .int x)], [.int 1]) (zH (zb v 0 (upd (v 0) 10 2)) w t) _
  refine zk_T.br (f1 := (19, [(0, .ref 0), (1, .int x)], [])) (f2 := (15, [(0, .ref 0), (1, .int x)], [])) rfl (fun c2 => absurd (of_decide_eq_true c2) (by decide)) (fun c2 => ?_)
  refine zk_T.adv 2 (f' := (30, [(0, .ref 0), (1, .int x)], [.int (-1)])) (h' := zH (zb v 0 (upd (v 0) 10 2)) w t) rfl ?_
  exact zk_T.rt rfl rfl (by rfl)
/-- BasketKeep.busiest -/
theorem zK_busiest_f (hst : v 0 2 = 1) (D : Nat) (hD : v 20 1 = nI D) (h8 : D ≤ 8) (Mn : Nat) (hM : v 20 4 = nI Mn) (h5 : Mn ≤ 5) (Gn : Nat) (hG : v 20 8 = nI Gn) (h4 : Gn ≤ 4) (hli : ∀ a, a < Gn → v 33 a < 0 ∨ ∃ e, e < 5 ∧ v 33 a = nI e) (hkd : ∀ e, e < 5 → v 23 e = 0 ∨ v 23 e = 1 ∨ v 23 e = 2) (sp : Nat) (hsp : sp ≤ 60) : zk_Cr zk_mt zk_ex Ls xs 275 [.ref 0, .int (nI sp)] (zH v w t) (some (.int (zr_busiest Mn ((zvR_now (zb v 0 (upd (v 0) 10 0)) D Mn Gn sp) 51))), zH (zvR_now (zb v 0 (upd (v 0) 10 0)) D Mn Gn sp) w t) := by
  refine zk_Cr.of (K := zm_275) rfl rfl rfl ?_
  show zk_T zk_mt zk_ex Ls xs zm_275 (0, [(0, .ref 0), (1, .int (nI sp))], []) (zH v w t) _
  refine zk_T.adv 1 (f' := (1, [(0, .ref 0), (1, .int (nI sp))], [.ref 0])) (h' := zH v w t) rfl ?_
  refine zk_T.cl (v := some (.int 0)) (h' := zH (zb v 0 (upd (v 0) 10 0)) w t) rfl (zs_noLevel_f (v := v) hst) ?_
  show zk_T zk_mt zk_ex Ls xs zm_275 (4, [(0, .ref 0), (1, .int (nI sp))], [.int 0]) (zH (zb v 0 (upd (v 0) 10 0)) w t) _
  refine zk_T.br (f1 := (7, [(0, .ref 0), (1, .int (nI sp))], [])) (f2 := (15, [(0, .ref 0), (1, .int (nI sp))], [])) rfl (fun c1 => ?_) (fun c1 => absurd (by decide) (of_decide_eq_false c1))
  refine zk_T.adv 2 (f' := (9, [(0, .ref 0), (1, .int (nI sp))], [.int (nI sp), .ref 0])) (h' := zH (zb v 0 (upd (v 0) 10 0)) w t) rfl ?_
  refine zk_T.cl (v := some (.int 0)) (h' := zH (zvR_now (zb v 0 (upd (v 0) 10 0)) D Mn Gn sp) w t) rfl (zs_cf_f (v := (zb v 0 (upd (v 0) 10 0))) D hD h8 Mn hM h5 Gn hG h4 hli hkd sp (by omega)) ?_
  show zk_T zk_mt zk_ex Ls xs zm_275 (12, [(0, .ref 0), (1, .int (nI sp))], [.int 0]) (zH (zvR_now (zb v 0 (upd (v 0) 10 0)) D Mn Gn sp) w t) _
  refine zk_T.br (f1 := (19, [(0, .ref 0), (1, .int (nI sp))], [])) (f2 := (15, [(0, .ref 0), (1, .int (nI sp))], [])) rfl (fun c2 => ?_) (fun c2 => absurd (by decide) (of_decide_eq_false c2))
  refine zk_T.adv 4 (f' := (27, [(0, .ref 0), (1, .int (nI sp))], [.ref 20, .ref 43])) (h' := zH (zvR_now (zb v 0 (upd (v 0) 10 0)) D Mn Gn sp) w t) rfl ?_
  refine zk_T.cl (v := some (.int (zr_busiest Mn ((zvR_now (zb v 0 (upd (v 0) 10 0)) D Mn Gn sp) 51)))) (h' := zH (zvR_now (zb v 0 (upd (v 0) 10 0)) D Mn Gn sp) w t) rfl (zs_busiestMaker (v := (zvR_now (zb v 0 (upd (v 0) 10 0)) D Mn Gn sp)) Mn hM h5) ?_
  show zk_T zk_mt zk_ex Ls xs zm_275 (30, [(0, .ref 0), (1, .int (nI sp))], [.int (zr_busiest Mn ((zvR_now (zb v 0 (upd (v 0) 10 0)) D Mn Gn sp) 51))]) (zH (zvR_now (zb v 0 (upd (v 0) 10 0)) D Mn Gn sp) w t) _
  exact zk_T.rt rfl rfl (by rfl)
/-- BasketKeep.worst -/
theorem zK_worst_t (x : Int32) (hst : v 0 2 = 0) : zk_Cr zk_mt zk_ex Ls xs 282 [.ref 0, .int x] (zH v w t) (some (.int (-1)), zH (zb v 0 (upd (v 0) 10 1)) w t) := by
  refine zk_Cr.of (K := zm_282) rfl rfl rfl ?_
  show zk_T zk_mt zk_ex Ls xs zm_282 (0, [(0, .ref 0), (1, .int x)], []) (zH v w t) _
  refine zk_T.adv 1 (f' := (1, [(0, .ref 0), (1, .int x)], [.ref 0])) (h' := zH v w t) rfl ?_
  refine zk_T.cl (v := some (.int 1)) (h' := zH (zb v 0 (upd (v 0) 10 1)) w t) rfl (zs_noLevel_t (v := v) hst) ?_
  show zk_T zk_mt zk_ex Ls xs zm_282 (4, [(0, .ref 0), (1, .int x)], [.int 1]) (zH (zb v 0 (upd (v 0) 10 1)) w t) _
  refine zk_T.br (f1 := (7, [(0, .ref 0), (1, .int x)], [])) (f2 := (15, [(0, .ref 0), (1, .int x)], [])) rfl (fun c1 => absurd (of_decide_eq_true c1) (by decide)) (fun c1 => ?_)
  refine zk_T.adv 2 (f' := (30, [(0, .ref 0), (1, .int x)], [.int (-1)])) (h' := zH (zb v 0 (upd (v 0) 10 1)) w t) rfl ?_
  exact zk_T.rt rfl rfl (by rfl)
/-- BasketKeep.worst -/
theorem zK_worst_o (x : Int32) (hst : v 0 2 = 1) (ho : x < 0 ∨ 60 < x) : zk_Cr zk_mt zk_ex Ls xs 282 [.ref 0, .int x] (zH v w t) (some (.int (-1)), zH (zb v 0 (upd (v 0) 10 2)) w t) := by
  refine zk_Cr.of (K := zm_282) rfl rfl rfl ?_
  show zk_T zk_mt zk_ex Ls xs zm_282 (0, [(0, .ref 0), (1, .int x)], []) (zH v w t) _
  refine zk_T.adv 1 (f' := (1, [(0, .ref 0), (1, .int x)], [.ref 0])) (h' := zH v w t) rfl ?_
  refine zk_T.cl (v := some (.int 0)) (h' := zH (zb v 0 (upd (v 0) 10 0)) w t) rfl (zs_noLevel_f (v := v) hst) ?_
  show zk_T zk_mt zk_ex Ls xs zm_282 (4, [(0, .ref 0), (1, .int x)], [.int 0]) (zH (zb v 0 (upd (v 0) 10 0)) w t) _
  refine zk_T.br (f1 := (7, [(0, .ref 0), (1, .int x)], [])) (f2 := (15, [(0, .ref 0), (1, .int x)], [])) rfl (fun c1 => ?_) (fun c1 => absurd (by decide) (of_decide_eq_false c1))
  refine zk_T.adv 2 (f' := (9, [(0, .ref 0), (1, .int x)], [.int x, .ref 0])) (h' := zH (zb v 0 (upd (v 0) 10 0)) w t) rfl ?_
  refine zk_T.cl (v := some (.int 1)) (h' := zH (zb v 0 (upd (v 0) 10 2)) w t) rfl (zs_cf_t x ho) ?_
  show zk_T zk_mt zk_ex Ls xs zm_282 (12, [(0, .ref 0), (1, .int x)], [.int 1]) (zH (zb v 0 (upd (v 0) 10 2)) w t) _
  refine zk_T.br (f1 := (19, [(0, .ref 0), (1, .int x)], [])) (f2 := (15, [(0, .ref 0), (1, .int x)], [])) rfl (fun c2 => absurd (of_decide_eq_true c2) (by decide)) (fun c2 => ?_)
  refine zk_T.adv 2 (f' := (30, [(0, .ref 0), (1, .int x)], [.int (-1)])) (h' := zH (zb v 0 (upd (v 0) 10 2)) w t) rfl ?_
  exact zk_T.rt rfl rfl (by rfl)
/-- BasketKeep.worst -/
theorem zK_worst_f (hst : v 0 2 = 1) (D : Nat) (hD : v 20 1 = nI D) (h8 : D ≤ 8) (Mn : Nat) (hM : v 20 4 = nI Mn) (h5 : Mn ≤ 5) (Gn : Nat) (hG : v 20 8 = nI Gn) (h4 : Gn ≤ 4) (hli : ∀ a, a < Gn → v 33 a < 0 ∨ ∃ e, e < 5 ∧ v 33 a = nI e) (hkd : ∀ e, e < 5 → v 23 e = 0 ∨ v 23 e = 1 ∨ v 23 e = 2) (sp : Nat) (hsp : sp ≤ 60) : zk_Cr zk_mt zk_ex Ls xs 282 [.ref 0, .int (nI sp)] (zH v w t) (some (.int (zr_worst D Gn ((zvR_now (zb v 0 (upd (v 0) 10 0)) D Mn Gn sp) 48) ((zvR_now (zb v 0 (upd (v 0) 10 0)) D Mn Gn sp) 26))), zH (zvR_now (zb v 0 (upd (v 0) 10 0)) D Mn Gn sp) w t) := by
  refine zk_Cr.of (K := zm_282) rfl rfl rfl ?_
  show zk_T zk_mt zk_ex Ls xs zm_282 (0, [(0, .ref 0), (1, .int (nI sp))], []) (zH v w t) _
  refine zk_T.adv 1 (f' := (1, [(0, .ref 0), (1, .int (nI sp))], [.ref 0])) (h' := zH v w t) rfl ?_
  refine zk_T.cl (v := some (.int 0)) (h' := zH (zb v 0 (upd (v 0) 10 0)) w t) rfl (zs_noLevel_f (v := v) hst) ?_
  show zk_T zk_mt zk_ex Ls xs zm_282 (4, [(0, .ref 0), (1, .int (nI sp))], [.int 0]) (zH (zb v 0 (upd (v 0) 10 0)) w t) _
  refine zk_T.br (f1 := (7, [(0, .ref 0), (1, .int (nI sp))], [])) (f2 := (15, [(0, .ref 0), (1, .int (nI sp))], [])) rfl (fun c1 => ?_) (fun c1 => absurd (by decide) (of_decide_eq_false c1))
  refine zk_T.adv 2 (f' := (9, [(0, .ref 0), (1, .int (nI sp))], [.int (nI sp), .ref 0])) (h' := zH (zb v 0 (upd (v 0) 10 0)) w t) rfl ?_
  refine zk_T.cl (v := some (.int 0)) (h' := zH (zvR_now (zb v 0 (upd (v 0) 10 0)) D Mn Gn sp) w t) rfl (zs_cf_f (v := (zb v 0 (upd (v 0) 10 0))) D hD h8 Mn hM h5 Gn hG h4 hli hkd sp (by omega)) ?_
  show zk_T zk_mt zk_ex Ls xs zm_282 (12, [(0, .ref 0), (1, .int (nI sp))], [.int 0]) (zH (zvR_now (zb v 0 (upd (v 0) 10 0)) D Mn Gn sp) w t) _
  refine zk_T.br (f1 := (19, [(0, .ref 0), (1, .int (nI sp))], [])) (f2 := (15, [(0, .ref 0), (1, .int (nI sp))], [])) rfl (fun c2 => ?_) (fun c2 => absurd (by decide) (of_decide_eq_false c2))
  refine zk_T.adv 4 (f' := (27, [(0, .ref 0), (1, .int (nI sp))], [.ref 20, .ref 43])) (h' := zH (zvR_now (zb v 0 (upd (v 0) 10 0)) D Mn Gn sp) w t) rfl ?_
  refine zk_T.cl (v := some (.int (zr_worst D Gn ((zvR_now (zb v 0 (upd (v 0) 10 0)) D Mn Gn sp) 48) ((zvR_now (zb v 0 (upd (v 0) 10 0)) D Mn Gn sp) 26)))) (h' := zH (zvR_now (zb v 0 (upd (v 0) 10 0)) D Mn Gn sp) w t) rfl (zs_worstDanger (v := (zvR_now (zb v 0 (upd (v 0) 10 0)) D Mn Gn sp)) D hD h8 Gn hG h4) ?_
  show zk_T zk_mt zk_ex Ls xs zm_282 (30, [(0, .ref 0), (1, .int (nI sp))], [.int (zr_worst D Gn ((zvR_now (zb v 0 (upd (v 0) 10 0)) D Mn Gn sp) 48) ((zvR_now (zb v 0 (upd (v 0) 10 0)) D Mn Gn sp) 26))]) (zH (zvR_now (zb v 0 (upd (v 0) 10 0)) D Mn Gn sp) w t) _
  exact zk_T.rt rfl rfl (by rfl)
/-- BasketKeep.lostIn -/
theorem zK_lostIn_t (x : Int32) (hx : v 0 2 = 0 ∨ x < 0 ∨ v 20 8 ≤ x) : zk_Cr zk_mt zk_ex Ls xs 280 [.ref 0, .int x] (zH v w t) (some (.int (-1)), zH (zb v 0 (upd (v 0) 10 1)) w t) := by
  refine zk_Cr.of (K := zm_280) rfl rfl rfl ?_
  show zk_T zk_mt zk_ex Ls xs zm_280 (0, [(0, .ref 0), (1, .int x)], []) (zH v w t) _
  refine zk_T.adv 2 (f' := (2, [(0, .ref 0), (1, .int x)], [.int x, .ref 0])) (h' := zH v w t) rfl ?_
  refine zk_T.cl (v := some (.int 1)) (h' := zH (zb v 0 (upd (v 0) 10 1)) w t) rfl (zs_noGood_t (v := v) x hx) ?_
  show zk_T zk_mt zk_ex Ls xs zm_280 (5, [(0, .ref 0), (1, .int x)], [.int 1]) (zH (zb v 0 (upd (v 0) 10 1)) w t) _
  refine zk_T.br (f1 := (8, [(0, .ref 0), (1, .int x)], [])) (f2 := (17, [(0, .ref 0), (1, .int x)], [])) rfl (fun c1 => absurd (of_decide_eq_true c1) (by decide)) (fun c1 => ?_)
  refine zk_T.adv 2 (f' := (30, [(0, .ref 0), (1, .int x)], [.int (-1)])) (h' := zH (zb v 0 (upd (v 0) 10 1)) w t) rfl ?_
  exact zk_T.rt rfl rfl (by rfl)
/-- BasketKeep.lostIn -/
theorem zK_lostIn_f (hst : v 0 2 = 1) (D : Nat) (hD : v 20 1 = nI D) (h8 : D ≤ 8) (Mn : Nat) (hM : v 20 4 = nI Mn) (h5 : Mn ≤ 5) (Gn : Nat) (hG : v 20 8 = nI Gn) (h4 : Gn ≤ 4) (hli : ∀ a, a < Gn → v 33 a < 0 ∨ ∃ e, e < 5 ∧ v 33 a = nI e) (hkd : ∀ e, e < 5 → v 23 e = 0 ∨ v 23 e = 1 ∨ v 23 e = 2)  (a : Nat) (ha : a < Gn) : zk_Cr zk_mt zk_ex Ls xs 280 [.ref 0, .int (nI a)] (zH v w t) (some (.int ((zvR_now (zb v 0 (upd (v 0) 10 0)) D Mn Gn 60) 47 a)), zH (zvR_now (zb v 0 (upd (v 0) 10 0)) D Mn Gn 60) w t) := by
  refine zk_Cr.of (K := zm_280) rfl rfl rfl ?_
  show zk_T zk_mt zk_ex Ls xs zm_280 (0, [(0, .ref 0), (1, .int (nI a))], []) (zH v w t) _
  refine zk_T.adv 2 (f' := (2, [(0, .ref 0), (1, .int (nI a))], [.int (nI a), .ref 0])) (h' := zH v w t) rfl ?_
  refine zk_T.cl (v := some (.int 0)) (h' := zH (zb v 0 (upd (v 0) 10 0)) w t) rfl (zs_noGood_f (v := v) hst Gn hG h4 a ha) ?_
  show zk_T zk_mt zk_ex Ls xs zm_280 (5, [(0, .ref 0), (1, .int (nI a))], [.int 0]) (zH (zb v 0 (upd (v 0) 10 0)) w t) _
  refine zk_T.br (f1 := (8, [(0, .ref 0), (1, .int (nI a))], [])) (f2 := (17, [(0, .ref 0), (1, .int (nI a))], [])) rfl (fun c1 => ?_) (fun c1 => absurd (by decide) (of_decide_eq_false c1))
  refine zk_T.adv 2 (f' := (11, [(0, .ref 0), (1, .int (nI a))], [.int 60, .ref 0])) (h' := zH (zb v 0 (upd (v 0) 10 0)) w t) rfl ?_
  refine zk_T.cl (v := some (.int 0)) (h' := zH (zvR_now (zb v 0 (upd (v 0) 10 0)) D Mn Gn 60) w t) rfl (zs_cf_f (v := (zb v 0 (upd (v 0) 10 0))) D hD h8 Mn hM h5 Gn hG h4 hli hkd 60 (by omega)) ?_
  show zk_T zk_mt zk_ex Ls xs zm_280 (14, [(0, .ref 0), (1, .int (nI a))], [.int 0]) (zH (zvR_now (zb v 0 (upd (v 0) 10 0)) D Mn Gn 60) w t) _
  refine zk_T.br (f1 := (21, [(0, .ref 0), (1, .int (nI a))], [])) (f2 := (17, [(0, .ref 0), (1, .int (nI a))], [])) rfl (fun c2 => ?_) (fun c2 => absurd (by decide) (of_decide_eq_false c2))
  refine zk_T.adv 4 (f' := (29, [(0, .ref 0), (1, .int (nI a))], [.int (nI a), .ref 46])) (h' := zH (zvR_now (zb v 0 (upd (v 0) 10 0)) D Mn Gn 60) w t) rfl ?_
  refine zk_T.ob (f' := (30, [(0, .ref 0), (1, .int (nI a))], [.int ((zvR_now (zb v 0 (upd (v 0) 10 0)) D Mn Gn 60) 47 (nI a).toNatClampNeg)])) (h' := zH (zvR_now (zb v 0 (upd (v 0) 10 0)) D Mn Gn 60) w t) rfl (by first | exact zk_inN (by omega) (by decide) | decide) ?_
  rw [nI_clamp (show a < 2 ^ 31 by omega)]
  exact zk_T.rt rfl rfl (by rfl)
/-- BasketKeep.lostBy -/
theorem zK_lostBy_t (x : Int32) (hx : v 0 2 = 0 ∨ x < 0 ∨ v 20 8 ≤ x) : zk_Cr zk_mt zk_ex Ls xs 279 [.ref 0, .int x] (zH v w t) (some (.int (-1)), zH (zb v 0 (upd (v 0) 10 1)) w t) := by
  refine zk_Cr.of (K := zm_279) rfl rfl rfl ?_
  show zk_T zk_mt zk_ex Ls xs zm_279 (0, [(0, .ref 0), (1, .int x)], []) (zH v w t) _
  refine zk_T.adv 2 (f' := (2, [(0, .ref 0), (1, .int x)], [.int x, .ref 0])) (h' := zH v w t) rfl ?_
  refine zk_T.cl (v := some (.int 1)) (h' := zH (zb v 0 (upd (v 0) 10 1)) w t) rfl (zs_noGood_t (v := v) x hx) ?_
  show zk_T zk_mt zk_ex Ls xs zm_279 (5, [(0, .ref 0), (1, .int x)], [.int 1]) (zH (zb v 0 (upd (v 0) 10 1)) w t) _
  refine zk_T.br (f1 := (8, [(0, .ref 0), (1, .int x)], [])) (f2 := (17, [(0, .ref 0), (1, .int x)], [])) rfl (fun c1 => absurd (of_decide_eq_true c1) (by decide)) (fun c1 => ?_)
  refine zk_T.adv 2 (f' := (30, [(0, .ref 0), (1, .int x)], [.int (-1)])) (h' := zH (zb v 0 (upd (v 0) 10 1)) w t) rfl ?_
  exact zk_T.rt rfl rfl (by rfl)
/-- BasketKeep.lostBy -/
theorem zK_lostBy_f (hst : v 0 2 = 1) (D : Nat) (hD : v 20 1 = nI D) (h8 : D ≤ 8) (Mn : Nat) (hM : v 20 4 = nI Mn) (h5 : Mn ≤ 5) (Gn : Nat) (hG : v 20 8 = nI Gn) (h4 : Gn ≤ 4) (hli : ∀ a, a < Gn → v 33 a < 0 ∨ ∃ e, e < 5 ∧ v 33 a = nI e) (hkd : ∀ e, e < 5 → v 23 e = 0 ∨ v 23 e = 1 ∨ v 23 e = 2)  (a : Nat) (ha : a < Gn) : zk_Cr zk_mt zk_ex Ls xs 279 [.ref 0, .int (nI a)] (zH v w t) (some (.int ((zvR_now (zb v 0 (upd (v 0) 10 0)) D Mn Gn 60) 48 a)), zH (zvR_now (zb v 0 (upd (v 0) 10 0)) D Mn Gn 60) w t) := by
  refine zk_Cr.of (K := zm_279) rfl rfl rfl ?_
  show zk_T zk_mt zk_ex Ls xs zm_279 (0, [(0, .ref 0), (1, .int (nI a))], []) (zH v w t) _
  refine zk_T.adv 2 (f' := (2, [(0, .ref 0), (1, .int (nI a))], [.int (nI a), .ref 0])) (h' := zH v w t) rfl ?_
  refine zk_T.cl (v := some (.int 0)) (h' := zH (zb v 0 (upd (v 0) 10 0)) w t) rfl (zs_noGood_f (v := v) hst Gn hG h4 a ha) ?_
  show zk_T zk_mt zk_ex Ls xs zm_279 (5, [(0, .ref 0), (1, .int (nI a))], [.int 0]) (zH (zb v 0 (upd (v 0) 10 0)) w t) _
  refine zk_T.br (f1 := (8, [(0, .ref 0), (1, .int (nI a))], [])) (f2 := (17, [(0, .ref 0), (1, .int (nI a))], [])) rfl (fun c1 => ?_) (fun c1 => absurd (by decide) (of_decide_eq_false c1))
  refine zk_T.adv 2 (f' := (11, [(0, .ref 0), (1, .int (nI a))], [.int 60, .ref 0])) (h' := zH (zb v 0 (upd (v 0) 10 0)) w t) rfl ?_
  refine zk_T.cl (v := some (.int 0)) (h' := zH (zvR_now (zb v 0 (upd (v 0) 10 0)) D Mn Gn 60) w t) rfl (zs_cf_f (v := (zb v 0 (upd (v 0) 10 0))) D hD h8 Mn hM h5 Gn hG h4 hli hkd 60 (by omega)) ?_
  show zk_T zk_mt zk_ex Ls xs zm_279 (14, [(0, .ref 0), (1, .int (nI a))], [.int 0]) (zH (zvR_now (zb v 0 (upd (v 0) 10 0)) D Mn Gn 60) w t) _
  refine zk_T.br (f1 := (21, [(0, .ref 0), (1, .int (nI a))], [])) (f2 := (17, [(0, .ref 0), (1, .int (nI a))], [])) rfl (fun c2 => ?_) (fun c2 => absurd (by decide) (of_decide_eq_false c2))
  refine zk_T.adv 4 (f' := (29, [(0, .ref 0), (1, .int (nI a))], [.int (nI a), .ref 47])) (h' := zH (zvR_now (zb v 0 (upd (v 0) 10 0)) D Mn Gn 60) w t) rfl ?_
  refine zk_T.ob (f' := (30, [(0, .ref 0), (1, .int (nI a))], [.int ((zvR_now (zb v 0 (upd (v 0) 10 0)) D Mn Gn 60) 48 (nI a).toNatClampNeg)])) (h' := zH (zvR_now (zb v 0 (upd (v 0) 10 0)) D Mn Gn 60) w t) rfl (by first | exact zk_inN (by omega) (by decide) | decide) ?_
  rw [nI_clamp (show a < 2 ^ 31 by omega)]
  exact zk_T.rt rfl rfl (by rfl)
/-- BasketKeep.wornIn -/
theorem zK_wornIn_t (x : Int32) (hx : v 0 2 = 0 ∨ x < 0 ∨ v 20 4 ≤ x) : zk_Cr zk_mt zk_ex Ls xs 281 [.ref 0, .int x] (zH v w t) (some (.int (-1)), zH (zb v 0 (upd (v 0) 10 1)) w t) := by
  refine zk_Cr.of (K := zm_281) rfl rfl rfl ?_
  show zk_T zk_mt zk_ex Ls xs zm_281 (0, [(0, .ref 0), (1, .int x)], []) (zH v w t) _
  refine zk_T.adv 2 (f' := (2, [(0, .ref 0), (1, .int x)], [.int x, .ref 0])) (h' := zH v w t) rfl ?_
  refine zk_T.cl (v := some (.int 1)) (h' := zH (zb v 0 (upd (v 0) 10 1)) w t) rfl (zs_noMaker_t (v := v) x hx) ?_
  show zk_T zk_mt zk_ex Ls xs zm_281 (5, [(0, .ref 0), (1, .int x)], [.int 1]) (zH (zb v 0 (upd (v 0) 10 1)) w t) _
  refine zk_T.br (f1 := (8, [(0, .ref 0), (1, .int x)], [])) (f2 := (17, [(0, .ref 0), (1, .int x)], [])) rfl (fun c1 => absurd (of_decide_eq_true c1) (by decide)) (fun c1 => ?_)
  refine zk_T.adv 2 (f' := (30, [(0, .ref 0), (1, .int x)], [.int (-1)])) (h' := zH (zb v 0 (upd (v 0) 10 1)) w t) rfl ?_
  exact zk_T.rt rfl rfl (by rfl)
/-- BasketKeep.wornIn -/
theorem zK_wornIn_f (hst : v 0 2 = 1) (D : Nat) (hD : v 20 1 = nI D) (h8 : D ≤ 8) (Mn : Nat) (hM : v 20 4 = nI Mn) (h5 : Mn ≤ 5) (Gn : Nat) (hG : v 20 8 = nI Gn) (h4 : Gn ≤ 4) (hli : ∀ a, a < Gn → v 33 a < 0 ∨ ∃ e, e < 5 ∧ v 33 a = nI e) (hkd : ∀ e, e < 5 → v 23 e = 0 ∨ v 23 e = 1 ∨ v 23 e = 2)  (e : Nat) (he : e < Mn) : zk_Cr zk_mt zk_ex Ls xs 281 [.ref 0, .int (nI e)] (zH v w t) (some (.int ((zvR_now (zb v 0 (upd (v 0) 10 0)) D Mn Gn 60) 49 e)), zH (zvR_now (zb v 0 (upd (v 0) 10 0)) D Mn Gn 60) w t) := by
  refine zk_Cr.of (K := zm_281) rfl rfl rfl ?_
  show zk_T zk_mt zk_ex Ls xs zm_281 (0, [(0, .ref 0), (1, .int (nI e))], []) (zH v w t) _
  refine zk_T.adv 2 (f' := (2, [(0, .ref 0), (1, .int (nI e))], [.int (nI e), .ref 0])) (h' := zH v w t) rfl ?_
  refine zk_T.cl (v := some (.int 0)) (h' := zH (zb v 0 (upd (v 0) 10 0)) w t) rfl (zs_noMaker_f (v := v) hst Mn hM h5 e he) ?_
  show zk_T zk_mt zk_ex Ls xs zm_281 (5, [(0, .ref 0), (1, .int (nI e))], [.int 0]) (zH (zb v 0 (upd (v 0) 10 0)) w t) _
  refine zk_T.br (f1 := (8, [(0, .ref 0), (1, .int (nI e))], [])) (f2 := (17, [(0, .ref 0), (1, .int (nI e))], [])) rfl (fun c1 => ?_) (fun c1 => absurd (by decide) (of_decide_eq_false c1))
  refine zk_T.adv 2 (f' := (11, [(0, .ref 0), (1, .int (nI e))], [.int 60, .ref 0])) (h' := zH (zb v 0 (upd (v 0) 10 0)) w t) rfl ?_
  refine zk_T.cl (v := some (.int 0)) (h' := zH (zvR_now (zb v 0 (upd (v 0) 10 0)) D Mn Gn 60) w t) rfl (zs_cf_f (v := (zb v 0 (upd (v 0) 10 0))) D hD h8 Mn hM h5 Gn hG h4 hli hkd 60 (by omega)) ?_
  show zk_T zk_mt zk_ex Ls xs zm_281 (14, [(0, .ref 0), (1, .int (nI e))], [.int 0]) (zH (zvR_now (zb v 0 (upd (v 0) 10 0)) D Mn Gn 60) w t) _
  refine zk_T.br (f1 := (21, [(0, .ref 0), (1, .int (nI e))], [])) (f2 := (17, [(0, .ref 0), (1, .int (nI e))], [])) rfl (fun c2 => ?_) (fun c2 => absurd (by decide) (of_decide_eq_false c2))
  refine zk_T.adv 4 (f' := (29, [(0, .ref 0), (1, .int (nI e))], [.int (nI e), .ref 48])) (h' := zH (zvR_now (zb v 0 (upd (v 0) 10 0)) D Mn Gn 60) w t) rfl ?_
  refine zk_T.ob (f' := (30, [(0, .ref 0), (1, .int (nI e))], [.int ((zvR_now (zb v 0 (upd (v 0) 10 0)) D Mn Gn 60) 49 (nI e).toNatClampNeg)])) (h' := zH (zvR_now (zb v 0 (upd (v 0) 10 0)) D Mn Gn 60) w t) rfl (by first | exact zk_inN (by omega) (by decide) | decide) ?_
  rw [nI_clamp (show e < 2 ^ 31 by omega)]
  exact zk_T.rt rfl rfl (by rfl)
/-- BasketKeep.lastsIn -/
theorem zK_lastsIn_t (x : Int32) (hx : v 0 2 = 0 ∨ x < 0 ∨ v 20 4 ≤ x) (n : Int32) : zk_Cr zk_mt zk_ex Ls xs 277 [.ref 0, .int x, .int n] (zH v w t) (some (.int (-1)), zH (zb v 0 (upd (v 0) 10 1)) w t) := by
  refine zk_Cr.of (K := zm_277) rfl rfl rfl ?_
  show zk_T zk_mt zk_ex Ls xs zm_277 (0, [(0, .ref 0), (1, .int x), (2, .int n)], []) (zH v w t) _
  refine zk_T.adv 2 (f' := (2, [(0, .ref 0), (1, .int x), (2, .int n)], [.int x, .ref 0])) (h' := zH v w t) rfl ?_
  refine zk_T.cl (v := some (.int 1)) (h' := zH (zb v 0 (upd (v 0) 10 1)) w t) rfl (zs_noMaker_t (v := v) x hx) ?_
  show zk_T zk_mt zk_ex Ls xs zm_277 (5, [(0, .ref 0), (1, .int x), (2, .int n)], [.int 1]) (zH (zb v 0 (upd (v 0) 10 1)) w t) _
  refine zk_T.br (f1 := (8, [(0, .ref 0), (1, .int x), (2, .int n)], [])) (f2 := (16, [(0, .ref 0), (1, .int x), (2, .int n)], [])) rfl (fun c1 => absurd (of_decide_eq_true c1) (by decide)) (fun c1 => ?_)
  refine zk_T.adv 2 (f' := (29, [(0, .ref 0), (1, .int x), (2, .int n)], [.int (-1)])) (h' := zH (zb v 0 (upd (v 0) 10 1)) w t) rfl ?_
  exact zk_T.rt rfl rfl (by rfl)
/-- BasketKeep.lastsIn -/
theorem zK_lastsIn_o (hst : v 0 2 = 1) (Mn : Nat) (hM : v 20 4 = nI Mn) (h5 : Mn ≤ 5) (e : Nat) (he : e < Mn) (n : Int32) (ho : n < 0 ∨ 60 < n) : zk_Cr zk_mt zk_ex Ls xs 277 [.ref 0, .int (nI e), .int n] (zH v w t) (some (.int (-1)), zH (zb v 0 (upd (v 0) 10 2)) w t) := by
  refine zk_Cr.of (K := zm_277) rfl rfl rfl ?_
  show zk_T zk_mt zk_ex Ls xs zm_277 (0, [(0, .ref 0), (1, .int (nI e)), (2, .int n)], []) (zH v w t) _
  refine zk_T.adv 2 (f' := (2, [(0, .ref 0), (1, .int (nI e)), (2, .int n)], [.int (nI e), .ref 0])) (h' := zH v w t) rfl ?_
  refine zk_T.cl (v := some (.int 0)) (h' := zH (zb v 0 (upd (v 0) 10 0)) w t) rfl (zs_noMaker_f (v := v) hst Mn hM h5 e he) ?_
  show zk_T zk_mt zk_ex Ls xs zm_277 (5, [(0, .ref 0), (1, .int (nI e)), (2, .int n)], [.int 0]) (zH (zb v 0 (upd (v 0) 10 0)) w t) _
  refine zk_T.br (f1 := (8, [(0, .ref 0), (1, .int (nI e)), (2, .int n)], [])) (f2 := (16, [(0, .ref 0), (1, .int (nI e)), (2, .int n)], [])) rfl (fun c1 => ?_) (fun c1 => absurd (by decide) (of_decide_eq_false c1))
  refine zk_T.adv 2 (f' := (10, [(0, .ref 0), (1, .int (nI e)), (2, .int n)], [.int n, .ref 0])) (h' := zH (zb v 0 (upd (v 0) 10 0)) w t) rfl ?_
  refine zk_T.cl (v := some (.int 1)) (h' := zH (zb v 0 (upd (v 0) 10 2)) w t) rfl (zs_cf_t n ho) ?_
  show zk_T zk_mt zk_ex Ls xs zm_277 (13, [(0, .ref 0), (1, .int (nI e)), (2, .int n)], [.int 1]) (zH (zb v 0 (upd (v 0) 10 2)) w t) _
  refine zk_T.br (f1 := (20, [(0, .ref 0), (1, .int (nI e)), (2, .int n)], [])) (f2 := (16, [(0, .ref 0), (1, .int (nI e)), (2, .int n)], [])) rfl (fun c2 => absurd (of_decide_eq_true c2) (by decide)) (fun c2 => ?_)
  refine zk_T.adv 2 (f' := (29, [(0, .ref 0), (1, .int (nI e)), (2, .int n)], [.int (-1)])) (h' := zH (zb v 0 (upd (v 0) 10 2)) w t) rfl ?_
  exact zk_T.rt rfl rfl (by rfl)
/-- BasketKeep.lastsIn -/
theorem zK_lastsIn_f (hst : v 0 2 = 1) (D : Nat) (hD : v 20 1 = nI D) (h8 : D ≤ 8) (Mn : Nat) (hM : v 20 4 = nI Mn) (h5 : Mn ≤ 5) (Gn : Nat) (hG : v 20 8 = nI Gn) (h4 : Gn ≤ 4) (hli : ∀ a, a < Gn → v 33 a < 0 ∨ ∃ e, e < 5 ∧ v 33 a = nI e) (hkd : ∀ e, e < 5 → v 23 e = 0 ∨ v 23 e = 1 ∨ v 23 e = 2) (sp : Nat) (hsp : sp ≤ 60) (e : Nat) (he : e < Mn) : zk_Cr zk_mt zk_ex Ls xs 277 [.ref 0, .int (nI e), .int (nI sp)] (zH v w t) (some (.int ((zvR_now (zb v 0 (upd (v 0) 10 0)) D Mn Gn sp) 50 e)), zH (zvR_now (zb v 0 (upd (v 0) 10 0)) D Mn Gn sp) w t) := by
  refine zk_Cr.of (K := zm_277) rfl rfl rfl ?_
  show zk_T zk_mt zk_ex Ls xs zm_277 (0, [(0, .ref 0), (1, .int (nI e)), (2, .int (nI sp))], []) (zH v w t) _
  refine zk_T.adv 2 (f' := (2, [(0, .ref 0), (1, .int (nI e)), (2, .int (nI sp))], [.int (nI e), .ref 0])) (h' := zH v w t) rfl ?_
  refine zk_T.cl (v := some (.int 0)) (h' := zH (zb v 0 (upd (v 0) 10 0)) w t) rfl (zs_noMaker_f (v := v) hst Mn hM h5 e he) ?_
  show zk_T zk_mt zk_ex Ls xs zm_277 (5, [(0, .ref 0), (1, .int (nI e)), (2, .int (nI sp))], [.int 0]) (zH (zb v 0 (upd (v 0) 10 0)) w t) _
  refine zk_T.br (f1 := (8, [(0, .ref 0), (1, .int (nI e)), (2, .int (nI sp))], [])) (f2 := (16, [(0, .ref 0), (1, .int (nI e)), (2, .int (nI sp))], [])) rfl (fun c1 => ?_) (fun c1 => absurd (by decide) (of_decide_eq_false c1))
  refine zk_T.adv 2 (f' := (10, [(0, .ref 0), (1, .int (nI e)), (2, .int (nI sp))], [.int (nI sp), .ref 0])) (h' := zH (zb v 0 (upd (v 0) 10 0)) w t) rfl ?_
  refine zk_T.cl (v := some (.int 0)) (h' := zH (zvR_now (zb v 0 (upd (v 0) 10 0)) D Mn Gn sp) w t) rfl (zs_cf_f (v := (zb v 0 (upd (v 0) 10 0))) D hD h8 Mn hM h5 Gn hG h4 hli hkd sp (by omega)) ?_
  show zk_T zk_mt zk_ex Ls xs zm_277 (13, [(0, .ref 0), (1, .int (nI e)), (2, .int (nI sp))], [.int 0]) (zH (zvR_now (zb v 0 (upd (v 0) 10 0)) D Mn Gn sp) w t) _
  refine zk_T.br (f1 := (20, [(0, .ref 0), (1, .int (nI e)), (2, .int (nI sp))], [])) (f2 := (16, [(0, .ref 0), (1, .int (nI e)), (2, .int (nI sp))], [])) rfl (fun c2 => ?_) (fun c2 => absurd (by decide) (of_decide_eq_false c2))
  refine zk_T.adv 4 (f' := (28, [(0, .ref 0), (1, .int (nI e)), (2, .int (nI sp))], [.int (nI e), .ref 49])) (h' := zH (zvR_now (zb v 0 (upd (v 0) 10 0)) D Mn Gn sp) w t) rfl ?_
  refine zk_T.ob (f' := (29, [(0, .ref 0), (1, .int (nI e)), (2, .int (nI sp))], [.int ((zvR_now (zb v 0 (upd (v 0) 10 0)) D Mn Gn sp) 50 (nI e).toNatClampNeg)])) (h' := zH (zvR_now (zb v 0 (upd (v 0) 10 0)) D Mn Gn sp) w t) rfl (by first | exact zk_inN (by omega) (by decide) | decide) ?_
  rw [nI_clamp (show e < 2 ^ 31 by omega)]
  exact zk_T.rt rfl rfl (by rfl)
end Z30
