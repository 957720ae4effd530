/-! contracts: the walks (44 of the outlook, 53 of the planner, 58 of the doubts, 65 of the hurry) -/
section Z24
variable {Ls : Nat} {xs : Nat → Int32} {v : Nat → Nat → Int32} {w : Nat → Nat → Int64} {t : zk_H}
def zr_heldOff (kd th year : Int32) : Int32 := if kd = 1 then (zr_wh th) else (if kd = 2 then if (year - year / 2 * 2) = 0 then th else 0 else th)
/-- BasketKeep$Level.heldOff -/
theorem zs_heldOff (e : Nat) (he : e < 5) (hk : v 23 e = 0 ∨ v 23 e = 1 ∨ v 23 e = 2) (th year : Int32) : zk_Cr zk_mt zk_ex Ls xs 89 [.ref 20, .int (nI e), .int th, .int year] (zH v w t) (some (.int (zr_heldOff (v 23 e) th year)), zH v w t) := by
  refine zk_Cr.of (K := zm_89) rfl rfl rfl ?_
  show zk_T zk_mt zk_ex Ls xs zm_89 (0, [(0, .ref 20), (1, .int (nI e)), (2, .int th), (3, .int year)], []) (zH v w t) _
  refine zk_T.adv 3 (f' := (5, [(0, .ref 20), (1, .int (nI e)), (2, .int th), (3, .int year)], [.int (nI e), .ref 23])) (h' := zH v w t) rfl ?_
  refine zk_T.ob (f' := (6, [(0, .ref 20), (1, .int (nI e)), (2, .int th), (3, .int year)], [.int (v 23 (nI e).toNatClampNeg)])) (h' := zH v w t) rfl (by first | exact zk_inN (by omega) (by decide) | decide) ?_
  rw [nI_clamp (show e < 2 ^ 31 by omega)]
  rcases hk with hk | hk | hk
  · rw [hk]
    refine zk_T.adv 1 (f' := (49, [(0, .ref 20), (1, .int (nI e)), (2, .int th), (3, .int year)], [])) (h' := zH v w t) rfl ?_
    refine zk_T.adv 1 (f' := (50, [(0, .ref 20), (1, .int (nI e)), (2, .int th), (3, .int year)], [.int th])) (h' := zH v w t) rfl ?_
    exact zk_T.rt rfl rfl (by simp [zr_heldOff, hk])
  · rw [hk]
    refine zk_T.adv 1 (f' := (32, [(0, .ref 20), (1, .int (nI e)), (2, .int th), (3, .int year)], [])) (h' := zH v w t) rfl ?_
    refine zk_T.adv 1 (f' := (33, [(0, .ref 20), (1, .int (nI e)), (2, .int th), (3, .int year)], [.int th])) (h' := zH v w t) rfl ?_
    refine zk_T.cl (v := some (.int (zr_wh th))) (h' := zH v w t) rfl (zs_withoutHighest th) ?_
    show zk_T zk_mt zk_ex Ls xs zm_89 (36, [(0, .ref 20), (1, .int (nI e)), (2, .int th), (3, .int year)], [.int (zr_wh th)]) (zH v w t) _
    exact zk_T.rt rfl rfl (by simp [zr_heldOff, hk])
  · rw [hk]
    refine zk_T.adv 1 (f' := (37, [(0, .ref 20), (1, .int (nI e)), (2, .int th), (3, .int year)], [])) (h' := zH v w t) rfl ?_
    refine zk_T.adv 2 (f' := (39, [(0, .ref 20), (1, .int (nI e)), (2, .int th), (3, .int year)], [.int 2, .int year])) (h' := zH v w t) rfl ?_
    refine zk_T.ob (f' := (40, [(0, .ref 20), (1, .int (nI e)), (2, .int th), (3, .int year)], [.int (year - year / 2 * 2)])) (h' := zH v w t) rfl (by decide) ?_
    refine zk_T.br (f1 := (43, [(0, .ref 20), (1, .int (nI e)), (2, .int th), (3, .int year)], [])) (f2 := (47, [(0, .ref 20), (1, .int (nI e)), (2, .int th), (3, .int year)], [])) rfl (fun c1 => ?_) (fun c1 => ?_)
    · have c1 : (year - year / 2 * 2) = 0 := of_decide_eq_true c1
      refine zk_T.adv 2 (f' := (48, [(0, .ref 20), (1, .int (nI e)), (2, .int th), (3, .int year)], [.int th])) (h' := zH v w t) rfl ?_
      exact zk_T.rt rfl rfl (by simp [zr_heldOff, hk, if_pos c1])
    · have c1 : ¬ ((year - year / 2 * 2) = 0) := of_decide_eq_false c1
      refine zk_T.adv 1 (f' := (48, [(0, .ref 20), (1, .int (nI e)), (2, .int th), (3, .int year)], [.int 0])) (h' := zH v w t) rfl ?_
      exact zk_T.rt rfl rfl (by simp [zr_heldOff, hk, if_neg c1])
def zr_min (a b : Int32) : Int32 := if b < a then b else a
/-- java/lang/Math.min -/
theorem zs_min (a b : Int32) : zk_Cr zk_mt zk_ex Ls xs 72 [.int a, .int b] (zH v w t) (some (.int (zr_min a b)), zH v w t) := ⟨_, rfl, Or.inl ⟨rfl, rfl⟩⟩
def zr_max (a b : Int32) : Int32 := if a < b then b else a
/-- java/lang/Math.max -/
theorem zs_max (a b : Int32) : zk_Cr zk_mt zk_ex Ls xs 71 [.int a, .int b] (zH v w t) (some (.int (zr_max a b)), zH v w t) := ⟨_, rfl, Or.inl ⟨rfl, rfl⟩⟩
def zl_oyG (la lt : Int32) (i hi fe ou : Int32) (j : Nat) (s : Int32 × Int32 × Int32) : (Int32 × Int32 × Int32) ⊕ Int32 × Int32 × Int32 × Int32 × Int32 × Int32 := match s with
  | (wo, ls, kp) => if ls ≤ 0 then if (fe &&& (hi &&& ((1 : Int32) <<< ((nI j) &&& 31)))) = 0 then .inl (wo, ls, kp) else .inr (0, i, nI j, wo, ls, kp) else (if (ou &&& (hi &&& ((1 : Int32) <<< ((nI j) &&& 31)))) = 0 then if (fe &&& (hi &&& ((1 : Int32) <<< ((nI j) &&& 31)))) = 0 then .inl (wo, ls, kp) else .inr (0, i, nI j, wo, ls, kp) else (if (ls - 1) ≤ 0 then .inl (i, ls - 1, kp + 1) else .inl ((-2), ls - 1, kp + 1)))
theorem zl_oyO (i hi fe ou : Int32) : ∀ (s : Int32 × Int32 × Int32) (q : Option Value × zk_H), zk_or (fun (s : Int32 × Int32 × Int32) => zk_T zk_mt zk_ex Ls xs zm_99 (99, [(0, .ref 44), (1, .int i), (2, .int hi), (3, .int fe), (4, .int ou), (5, .int (nI (0 + 8)))], []) (zH (zb v 44 (upd (upd (upd (v 44) 5 s.1) 6 s.2.1) 7 s.2.2)) w t) q) (fun (r : Int32 × Int32 × Int32 × Int32 × Int32 × Int32) => (some (.int r.1), zH (zb v 44 (upd (upd (upd (upd (upd (v 44) 3 r.2.1) 4 r.2.2.1) 5 r.2.2.2.1) 6 r.2.2.2.2.1) 7 r.2.2.2.2.2)) w t) = q) (zfr (zl_oyG (v 44 3) (v 44 4) i hi fe ou) 8 0 s) → zk_T zk_mt zk_ex Ls xs zm_99 (3, [(0, .ref 44), (1, .int i), (2, .int hi), (3, .int fe), (4, .int ou), (5, .int (nI 0))], []) (zH (zb v 44 (upd (upd (upd (v 44) 5 s.1) 6 s.2.1) 7 s.2.2)) w t) q := by
  intro s q hk
  refine zk_forX (M := zm_99) (fun j (s : Int32 × Int32 × Int32) => (3, [(0, .ref 44), (1, .int i), (2, .int hi), (3, .int fe), (4, .int ou), (5, .int (nI j))], [])) (fun _ (s : Int32 × Int32 × Int32) => zH (zb v 44 (upd (upd (upd (v 44) 5 s.1) 6 s.2.1) 7 s.2.2)) w t) (zl_oyG (v 44 3) (v 44 4) i hi fe ou) (fun _ _ => True) (fun (s : Int32 × Int32 × Int32) => (99, [(0, .ref 44), (1, .int i), (2, .int hi), (3, .int fe), (4, .int ou), (5, .int (nI (0 + 8)))], [])) (fun (s : Int32 × Int32 × Int32) => zH (zb v 44 (upd (upd (upd (v 44) 5 s.1) 6 s.2.1) 7 s.2.2)) w t) (fun r q => (some (.int r.1), zH (zb v 44 (upd (upd (upd (upd (upd (v 44) 3 r.2.1) 4 r.2.2.1) 5 r.2.2.2.1) 6 r.2.2.2.2.1) 7 r.2.2.2.2.2)) w t) = q) (8) 0 s (fun _ _ _ _ _ _ _ => trivial) (fun j s hj1 hj2 hp q hk => ?_) (fun s hp q hk => ?_) ?_ q hk
  · obtain ⟨wo, ls, kp⟩ := s
    show zk_T zk_mt zk_ex Ls xs zm_99 (3, [(0, .ref 44), (1, .int i), (2, .int hi), (3, .int fe), (4, .int ou), (5, .int (nI j))], []) (zH (zb v 44 (upd (upd (upd (v 44) 5 wo) 6 ls) 7 kp)) w t) q
    refine zk_T.adv 2 (f' := (7, [(0, .ref 44), (1, .int i), (2, .int hi), (3, .int fe), (4, .int ou), (5, .int (nI j))], [.int 8, .int (nI j)])) (h' := zH (zb v 44 (upd (upd (upd (v 44) 5 wo) 6 ls) 7 kp)) w t) rfl ?_
    refine zk_T.br (f1 := (99, [(0, .ref 44), (1, .int i), (2, .int hi), (3, .int fe), (4, .int ou), (5, .int (nI j))], [])) (f2 := (10, [(0, .ref 44), (1, .int i), (2, .int hi), (3, .int fe), (4, .int ou), (5, .int (nI j))], [])) rfl (fun c1 => absurd (of_decide_eq_true c1) (nI_ge (show j < 8 by omega) (by decide))) (fun c1 => ?_)
    refine zk_T.adv 8 (f' := (22, [(0, .ref 44), (1, .int i), (2, .int hi), (3, .int fe), (4, .int ou), (5, .int (nI j)), (6, .int (hi &&& ((1 : Int32) <<< ((nI j) &&& 31))))], [.int ls])) (h' := zH (zb v 44 (upd (upd (upd (v 44) 5 wo) 6 ls) 7 kp)) w t) rfl ?_
    refine zk_T.br (f1 := (73, [(0, .ref 44), (1, .int i), (2, .int hi), (3, .int fe), (4, .int ou), (5, .int (nI j)), (6, .int (hi &&& ((1 : Int32) <<< ((nI j) &&& 31))))], [])) (f2 := (25, [(0, .ref 44), (1, .int i), (2, .int hi), (3, .int fe), (4, .int ou), (5, .int (nI j)), (6, .int (hi &&& ((1 : Int32) <<< ((nI j) &&& 31))))], [])) rfl (fun c2 => ?_) (fun c2 => ?_)
    · have c2 : ls ≤ 0 := of_decide_eq_true c2
      refine zk_T.adv 3 (f' := (77, [(0, .ref 44), (1, .int i), (2, .int hi), (3, .int fe), (4, .int ou), (5, .int (nI j)), (6, .int (hi &&& ((1 : Int32) <<< ((nI j) &&& 31))))], [.int (fe &&& (hi &&& ((1 : Int32) <<< ((nI j) &&& 31))))])) (h' := zH (zb v 44 (upd (upd (upd (v 44) 5 wo) 6 ls) 7 kp)) w t) rfl ?_
      refine zk_T.br (f1 := (93, [(0, .ref 44), (1, .int i), (2, .int hi), (3, .int fe), (4, .int ou), (5, .int (nI j)), (6, .int (hi &&& ((1 : Int32) <<< ((nI j) &&& 31))))], [])) (f2 := (80, [(0, .ref 44), (1, .int i), (2, .int hi), (3, .int fe), (4, .int ou), (5, .int (nI j)), (6, .int (hi &&& ((1 : Int32) <<< ((nI j) &&& 31))))], [])) rfl (fun c3 => ?_) (fun c3 => ?_)
      · have c3 : (fe &&& (hi &&& ((1 : Int32) <<< ((nI j) &&& 31)))) = 0 := of_decide_eq_true c3
        refine zk_T.adv 2 (f' := (3, [(0, .ref 44), (1, .int i), (2, .int hi), (3, .int fe), (4, .int ou), (5, .int ((nI j) + 1))], [])) (h' := zH (zb v 44 (upd (upd (upd (v 44) 5 wo) 6 ls) 7 kp)) w t) rfl ?_
        rw [nI_1]
        simp only [zl_oyG, zk_or, if_pos c2, if_pos c3] at hk
        exact hk
      · have c3 : ¬ ((fe &&& (hi &&& ((1 : Int32) <<< ((nI j) &&& 31)))) = 0) := of_decide_eq_false c3
        refine zk_T.adv 7 (f' := (92, [(0, .ref 44), (1, .int i), (2, .int hi), (3, .int fe), (4, .int ou), (5, .int (nI j)), (6, .int (hi &&& ((1 : Int32) <<< ((nI j) &&& 31))))], [.int 0])) (h' := zH (zb v 44 (upd (upd (upd (upd (upd (v 44) 3 i) 4 (nI j)) 5 wo) 6 ls) 7 kp)) w t) rfl ?_
        simp only [zl_oyG, zk_or, if_pos c2, if_neg c3] at hk
        exact zk_T.rt rfl rfl hk
    · have c2 : ¬ (ls ≤ 0) := of_decide_eq_false c2
      refine zk_T.adv 3 (f' := (30, [(0, .ref 44), (1, .int i), (2, .int hi), (3, .int fe), (4, .int ou), (5, .int (nI j)), (6, .int (hi &&& ((1 : Int32) <<< ((nI j) &&& 31))))], [.int (ou &&& (hi &&& ((1 : Int32) <<< ((nI j) &&& 31))))])) (h' := zH (zb v 44 (upd (upd (upd (v 44) 5 wo) 6 ls) 7 kp)) w t) rfl ?_
      refine zk_T.br (f1 := (73, [(0, .ref 44), (1, .int i), (2, .int hi), (3, .int fe), (4, .int ou), (5, .int (nI j)), (6, .int (hi &&& ((1 : Int32) <<< ((nI j) &&& 31))))], [])) (f2 := (33, [(0, .ref 44), (1, .int i), (2, .int hi), (3, .int fe), (4, .int ou), (5, .int (nI j)), (6, .int (hi &&& ((1 : Int32) <<< ((nI j) &&& 31))))], [])) rfl (fun c4 => ?_) (fun c4 => ?_)
      · have c4 : (ou &&& (hi &&& ((1 : Int32) <<< ((nI j) &&& 31)))) = 0 := of_decide_eq_true c4
        refine zk_T.adv 3 (f' := (77, [(0, .ref 44), (1, .int i), (2, .int hi), (3, .int fe), (4, .int ou), (5, .int (nI j)), (6, .int (hi &&& ((1 : Int32) <<< ((nI j) &&& 31))))], [.int (fe &&& (hi &&& ((1 : Int32) <<< ((nI j) &&& 31))))])) (h' := zH (zb v 44 (upd (upd (upd (v 44) 5 wo) 6 ls) 7 kp)) w t) rfl ?_
        refine zk_T.br (f1 := (93, [(0, .ref 44), (1, .int i), (2, .int hi), (3, .int fe), (4, .int ou), (5, .int (nI j)), (6, .int (hi &&& ((1 : Int32) <<< ((nI j) &&& 31))))], [])) (f2 := (80, [(0, .ref 44), (1, .int i), (2, .int hi), (3, .int fe), (4, .int ou), (5, .int (nI j)), (6, .int (hi &&& ((1 : Int32) <<< ((nI j) &&& 31))))], [])) rfl (fun c5 => ?_) (fun c5 => ?_)
        · have c5 : (fe &&& (hi &&& ((1 : Int32) <<< ((nI j) &&& 31)))) = 0 := of_decide_eq_true c5
          refine zk_T.adv 2 (f' := (3, [(0, .ref 44), (1, .int i), (2, .int hi), (3, .int fe), (4, .int ou), (5, .int ((nI j) + 1))], [])) (h' := zH (zb v 44 (upd (upd (upd (v 44) 5 wo) 6 ls) 7 kp)) w t) rfl ?_
          rw [nI_1]
          simp only [zl_oyG, zk_or, if_neg c2, if_pos c4, if_pos c5] at hk
          exact hk
        · have c5 : ¬ ((fe &&& (hi &&& ((1 : Int32) <<< ((nI j) &&& 31)))) = 0) := of_decide_eq_false c5
          refine zk_T.adv 7 (f' := (92, [(0, .ref 44), (1, .int i), (2, .int hi), (3, .int fe), (4, .int ou), (5, .int (nI j)), (6, .int (hi &&& ((1 : Int32) <<< ((nI j) &&& 31))))], [.int 0])) (h' := zH (zb v 44 (upd (upd (upd (upd (upd (v 44) 3 i) 4 (nI j)) 5 wo) 6 ls) 7 kp)) w t) rfl ?_
          simp only [zl_oyG, zk_or, if_neg c2, if_pos c4, if_neg c5] at hk
          exact zk_T.rt rfl rfl hk
      · have c4 : ¬ ((ou &&& (hi &&& ((1 : Int32) <<< ((nI j) &&& 31)))) = 0) := of_decide_eq_false c4
        refine zk_T.adv 15 (f' := (58, [(0, .ref 44), (1, .int i), (2, .int hi), (3, .int fe), (4, .int ou), (5, .int (nI j)), (6, .int (hi &&& ((1 : Int32) <<< ((nI j) &&& 31))))], [.int (ls - 1), .ref 44])) (h' := zH (zb v 44 (upd (upd (upd (v 44) 5 wo) 6 (ls - 1)) 7 (kp + 1))) w t) rfl ?_
        refine zk_T.br (f1 := (66, [(0, .ref 44), (1, .int i), (2, .int hi), (3, .int fe), (4, .int ou), (5, .int (nI j)), (6, .int (hi &&& ((1 : Int32) <<< ((nI j) &&& 31))))], [.ref 44])) (f2 := (61, [(0, .ref 44), (1, .int i), (2, .int hi), (3, .int fe), (4, .int ou), (5, .int (nI j)), (6, .int (hi &&& ((1 : Int32) <<< ((nI j) &&& 31))))], [.ref 44])) rfl (fun c6 => ?_) (fun c6 => ?_)
        · have c6 : (ls - 1) ≤ 0 := of_decide_eq_true c6
          refine zk_T.adv 5 (f' := (3, [(0, .ref 44), (1, .int i), (2, .int hi), (3, .int fe), (4, .int ou), (5, .int ((nI j) + 1))], [])) (h' := zH (zb v 44 (upd (upd (upd (v 44) 5 i) 6 (ls - 1)) 7 (kp + 1))) w t) rfl ?_
          rw [nI_1]
          simp only [zl_oyG, zk_or, if_neg c2, if_neg c4, if_pos c6] at hk
          exact hk
        · have c6 : ¬ ((ls - 1) ≤ 0) := of_decide_eq_false c6
          refine zk_T.adv 6 (f' := (3, [(0, .ref 44), (1, .int i), (2, .int hi), (3, .int fe), (4, .int ou), (5, .int ((nI j) + 1))], [])) (h' := zH (zb v 44 (upd (upd (upd (v 44) 5 (-2)) 6 (ls - 1)) 7 (kp + 1))) w t) rfl ?_
          rw [nI_1]
          simp only [zl_oyG, zk_or, if_neg c2, if_neg c4, if_neg c6] at hk
          exact hk
  · obtain ⟨wo, ls, kp⟩ := s
    show zk_T zk_mt zk_ex Ls xs zm_99 (3, [(0, .ref 44), (1, .int i), (2, .int hi), (3, .int fe), (4, .int ou), (5, .int (nI (0 + 8)))], []) (zH (zb v 44 (upd (upd (upd (v 44) 5 wo) 6 ls) 7 kp)) w t) q
    refine zk_T.adv 2 (f' := (7, [(0, .ref 44), (1, .int i), (2, .int hi), (3, .int fe), (4, .int ou), (5, .int (nI (0 + 8)))], [.int 8, .int (nI (0 + 8))])) (h' := zH (zb v 44 (upd (upd (upd (v 44) 5 wo) 6 ls) 7 kp)) w t) rfl ?_
    refine zk_T.br (f1 := (99, [(0, .ref 44), (1, .int i), (2, .int hi), (3, .int fe), (4, .int ou), (5, .int (nI (0 + 8)))], [])) (f2 := (10, [(0, .ref 44), (1, .int i), (2, .int hi), (3, .int fe), (4, .int ou), (5, .int (nI (0 + 8)))], [])) rfl (fun c1 => ?_) (fun c1 => absurd (by decide) (of_decide_eq_false c1))
    exact hk
  · exact trivial
def zr_oy (la lt wo ls kp : Int32) (y : Nat) (hi fe ou : Int32) : Int32 × Int32 × Int32 × Int32 × Int32 × Int32 := match zfr (zl_oyG la lt (nI y) hi fe ou) 8 0 (wo, ls, kp) with | .inl s => (1, la, lt, s.1, s.2.1, s.2.2) | .inr r => r
/-- BasketKeep$Walk.outlastsYear -/
theorem zs_oyO (y : Nat) (hi fe ou : Int32) : zk_Cr zk_mt zk_ex Ls xs 99 [.ref 44, .int (nI y), .int hi, .int fe, .int ou] (zH v w t) (some (.int (zr_oy (v 44 3) (v 44 4) (v 44 5) (v 44 6) (v 44 7) y hi fe ou).1), zH (zb v 44 (upd (upd (upd (upd (upd (v 44) 3 ((zr_oy (v 44 3) (v 44 4) (v 44 5) (v 44 6) (v 44 7) y hi fe ou).2.1)) 4 ((zr_oy (v 44 3) (v 44 4) (v 44 5) (v 44 6) (v 44 7) y hi fe ou).2.2.1)) 5 ((zr_oy (v 44 3) (v 44 4) (v 44 5) (v 44 6) (v 44 7) y hi fe ou).2.2.2.1)) 6 ((zr_oy (v 44 3) (v 44 4) (v 44 5) (v 44 6) (v 44 7) y hi fe ou).2.2.2.2.1)) 7 ((zr_oy (v 44 3) (v 44 4) (v 44 5) (v 44 6) (v 44 7) y hi fe ou).2.2.2.2.2))) w t) := by
  refine zk_Cr.of (K := zm_99) rfl rfl rfl ?_
  show zk_T zk_mt zk_ex Ls xs zm_99 (0, [(0, .ref 44), (1, .int (nI y)), (2, .int hi), (3, .int fe), (4, .int ou)], []) (zH v w t) _
  refine zk_T.adv 2 (f' := (3, [(0, .ref 44), (1, .int (nI y)), (2, .int hi), (3, .int fe), (4, .int ou), (5, .int 0)], [])) (h' := zH v w t) rfl ?_
  refine zl_oyO (nI y) hi fe ou ((v 44 5), (v 44 6), (v 44 7)) _ ?_
  cases z1 : zfr (zl_oyG (v 44 3) (v 44 4) (nI y) hi fe ou) 8 0 ((v 44 5), (v 44 6), (v 44 7)) with
  | inl s =>
    show zk_T zk_mt zk_ex Ls xs zm_99 (99, [(0, .ref 44), (1, .int (nI y)), (2, .int hi), (3, .int fe), (4, .int ou), (5, .int (nI (0 + 8)))], []) (zH (zb v 44 (upd (upd (upd (v 44) 5 s.1) 6 s.2.1) 7 s.2.2)) w t) _
    refine zk_T.adv 1 (f' := (100, [(0, .ref 44), (1, .int (nI y)), (2, .int hi), (3, .int fe), (4, .int ou), (5, .int (nI (0 + 8)))], [.int 1])) (h' := zH (zb v 44 (upd (upd (upd (v 44) 5 s.1) 6 s.2.1) 7 s.2.2)) w t) rfl ?_
    exact zk_T.rt rfl rfl (by simp only [zr_oy, z1] <;> rfl)
  | inr r =>
    show ((some (Value.int r.1), zH (zb v 44 (upd (upd (upd (upd (upd (v 44) 3 r.2.1) 4 r.2.2.1) 5 r.2.2.2.1) 6 r.2.2.2.2.1) 7 r.2.2.2.2.2)) w t) : Option Value × zk_H) = _
    simp only [zr_oy, z1] <;> rfl
theorem zl_oyP (i hi fe ou : Int32) : ∀ (s : Int32 × Int32 × Int32) (q : Option Value × zk_H), zk_or (fun (s : Int32 × Int32 × Int32) => zk_T zk_mt zk_ex Ls xs zm_99 (99, [(0, .ref 52), (1, .int i), (2, .int hi), (3, .int fe), (4, .int ou), (5, .int (nI (0 + 8)))], []) (zH (zb v 53 (upd (upd (upd (v 53) 5 s.1) 6 s.2.1) 7 s.2.2)) w t) q) (fun (r : Int32 × Int32 × Int32 × Int32 × Int32 × Int32) => (some (.int r.1), zH (zb v 53 (upd (upd (upd (upd (upd (v 53) 3 r.2.1) 4 r.2.2.1) 5 r.2.2.2.1) 6 r.2.2.2.2.1) 7 r.2.2.2.2.2)) w t) = q) (zfr (zl_oyG (v 53 3) (v 53 4) i hi fe ou) 8 0 s) → zk_T zk_mt zk_ex Ls xs zm_99 (3, [(0, .ref 52), (1, .int i), (2, .int hi), (3, .int fe), (4, .int ou), (5, .int (nI 0))], []) (zH (zb v 53 (upd (upd (upd (v 53) 5 s.1) 6 s.2.1) 7 s.2.2)) w t) q := by
  intro s q hk
  refine zk_forX (M := zm_99) (fun j (s : Int32 × Int32 × Int32) => (3, [(0, .ref 52), (1, .int i), (2, .int hi), (3, .int fe), (4, .int ou), (5, .int (nI j))], [])) (fun _ (s : Int32 × Int32 × Int32) => zH (zb v 53 (upd (upd (upd (v 53) 5 s.1) 6 s.2.1) 7 s.2.2)) w t) (zl_oyG (v 53 3) (v 53 4) i hi fe ou) (fun _ _ => True) (fun (s : Int32 × Int32 × Int32) => (99, [(0, .ref 52), (1, .int i), (2, .int hi), (3, .int fe), (4, .int ou), (5, .int (nI (0 + 8)))], [])) (fun (s : Int32 × Int32 × Int32) => zH (zb v 53 (upd (upd (upd (v 53) 5 s.1) 6 s.2.1) 7 s.2.2)) w t) (fun r q => (some (.int r.1), zH (zb v 53 (upd (upd (upd (upd (upd (v 53) 3 r.2.1) 4 r.2.2.1) 5 r.2.2.2.1) 6 r.2.2.2.2.1) 7 r.2.2.2.2.2)) w t) = q) (8) 0 s (fun _ _ _ _ _ _ _ => trivial) (fun j s hj1 hj2 hp q hk => ?_) (fun s hp q hk => ?_) ?_ q hk
  · obtain ⟨wo, ls, kp⟩ := s
    show zk_T zk_mt zk_ex Ls xs zm_99 (3, [(0, .ref 52), (1, .int i), (2, .int hi), (3, .int fe), (4, .int ou), (5, .int (nI j))], []) (zH (zb v 53 (upd (upd (upd (v 53) 5 wo) 6 ls) 7 kp)) w t) q
    refine zk_T.adv 2 (f' := (7, [(0, .ref 52), (1, .int i), (2, .int hi), (3, .int fe), (4, .int ou), (5, .int (nI j))], [.int 8, .int (nI j)])) (h' := zH (zb v 53 (upd (upd (upd (v 53) 5 wo) 6 ls) 7 kp)) w t) rfl ?_
    refine zk_T.br (f1 := (99, [(0, .ref 52), (1, .int i), (2, .int hi), (3, .int fe), (4, .int ou), (5, .int (nI j))], [])) (f2 := (10, [(0, .ref 52), (1, .int i), (2, .int hi), (3, .int fe), (4, .int ou), (5, .int (nI j))], [])) rfl (fun c1 => absurd (of_decide_eq_true c1) (nI_ge (show j < 8 by omega) (by decide))) (fun c1 => ?_)
    refine zk_T.adv 8 (f' := (22, [(0, .ref 52), (1, .int i), (2, .int hi), (3, .int fe), (4, .int ou), (5, .int (nI j)), (6, .int (hi &&& ((1 : Int32) <<< ((nI j) &&& 31))))], [.int ls])) (h' := zH (zb v 53 (upd (upd (upd (v 53) 5 wo) 6 ls) 7 kp)) w t) rfl ?_
    refine zk_T.br (f1 := (73, [(0, .ref 52), (1, .int i), (2, .int hi), (3, .int fe), (4, .int ou), (5, .int (nI j)), (6, .int (hi &&& ((1 : Int32) <<< ((nI j) &&& 31))))], [])) (f2 := (25, [(0, .ref 52), (1, .int i), (2, .int hi), (3, .int fe), (4, .int ou), (5, .int (nI j)), (6, .int (hi &&& ((1 : Int32) <<< ((nI j) &&& 31))))], [])) rfl (fun c2 => ?_) (fun c2 => ?_)
    · have c2 : ls ≤ 0 := of_decide_eq_true c2
      refine zk_T.adv 3 (f' := (77, [(0, .ref 52), (1, .int i), (2, .int hi), (3, .int fe), (4, .int ou), (5, .int (nI j)), (6, .int (hi &&& ((1 : Int32) <<< ((nI j) &&& 31))))], [.int (fe &&& (hi &&& ((1 : Int32) <<< ((nI j) &&& 31))))])) (h' := zH (zb v 53 (upd (upd (upd (v 53) 5 wo) 6 ls) 7 kp)) w t) rfl ?_
      refine zk_T.br (f1 := (93, [(0, .ref 52), (1, .int i), (2, .int hi), (3, .int fe), (4, .int ou), (5, .int (nI j)), (6, .int (hi &&& ((1 : Int32) <<< ((nI j) &&& 31))))], [])) (f2 := (80, [(0, .ref 52), (1, .int i), (2, .int hi), (3, .int fe), (4, .int ou), (5, .int (nI j)), (6, .int (hi &&& ((1 : Int32) <<< ((nI j) &&& 31))))], [])) rfl (fun c3 => ?_) (fun c3 => ?_)
      · have c3 : (fe &&& (hi &&& ((1 : Int32) <<< ((nI j) &&& 31)))) = 0 := of_decide_eq_true c3
        refine zk_T.adv 2 (f' := (3, [(0, .ref 52), (1, .int i), (2, .int hi), (3, .int fe), (4, .int ou), (5, .int ((nI j) + 1))], [])) (h' := zH (zb v 53 (upd (upd (upd (v 53) 5 wo) 6 ls) 7 kp)) w t) rfl ?_
        rw [nI_1]
        simp only [zl_oyG, zk_or, if_pos c2, if_pos c3] at hk
        exact hk
      · have c3 : ¬ ((fe &&& (hi &&& ((1 : Int32) <<< ((nI j) &&& 31)))) = 0) := of_decide_eq_false c3
        refine zk_T.adv 7 (f' := (92, [(0, .ref 52), (1, .int i), (2, .int hi), (3, .int fe), (4, .int ou), (5, .int (nI j)), (6, .int (hi &&& ((1 : Int32) <<< ((nI j) &&& 31))))], [.int 0])) (h' := zH (zb v 53 (upd (upd (upd (upd (upd (v 53) 3 i) 4 (nI j)) 5 wo) 6 ls) 7 kp)) w t) rfl ?_
        simp only [zl_oyG, zk_or, if_pos c2, if_neg c3] at hk
        exact zk_T.rt rfl rfl hk
    · have c2 : ¬ (ls ≤ 0) := of_decide_eq_false c2
      refine zk_T.adv 3 (f' := (30, [(0, .ref 52), (1, .int i), (2, .int hi), (3, .int fe), (4, .int ou), (5, .int (nI j)), (6, .int (hi &&& ((1 : Int32) <<< ((nI j) &&& 31))))], [.int (ou &&& (hi &&& ((1 : Int32) <<< ((nI j) &&& 31))))])) (h' := zH (zb v 53 (upd (upd (upd (v 53) 5 wo) 6 ls) 7 kp)) w t) rfl ?_
      refine zk_T.br (f1 := (73, [(0, .ref 52), (1, .int i), (2, .int hi), (3, .int fe), (4, .int ou), (5, .int (nI j)), (6, .int (hi &&& ((1 : Int32) <<< ((nI j) &&& 31))))], [])) (f2 := (33, [(0, .ref 52), (1, .int i), (2, .int hi), (3, .int fe), (4, .int ou), (5, .int (nI j)), (6, .int (hi &&& ((1 : Int32) <<< ((nI j) &&& 31))))], [])) rfl (fun c4 => ?_) (fun c4 => ?_)
      · have c4 : (ou &&& (hi &&& ((1 : Int32) <<< ((nI j) &&& 31)))) = 0 := of_decide_eq_true c4
        refine zk_T.adv 3 (f' := (77, [(0, .ref 52), (1, .int i), (2, .int hi), (3, .int fe), (4, .int ou), (5, .int (nI j)), (6, .int (hi &&& ((1 : Int32) <<< ((nI j) &&& 31))))], [.int (fe &&& (hi &&& ((1 : Int32) <<< ((nI j) &&& 31))))])) (h' := zH (zb v 53 (upd (upd (upd (v 53) 5 wo) 6 ls) 7 kp)) w t) rfl ?_
        refine zk_T.br (f1 := (93, [(0, .ref 52), (1, .int i), (2, .int hi), (3, .int fe), (4, .int ou), (5, .int (nI j)), (6, .int (hi &&& ((1 : Int32) <<< ((nI j) &&& 31))))], [])) (f2 := (80, [(0, .ref 52), (1, .int i), (2, .int hi), (3, .int fe), (4, .int ou), (5, .int (nI j)), (6, .int (hi &&& ((1 : Int32) <<< ((nI j) &&& 31))))], [])) rfl (fun c5 => ?_) (fun c5 => ?_)
        · have c5 : (fe &&& (hi &&& ((1 : Int32) <<< ((nI j) &&& 31)))) = 0 := of_decide_eq_true c5
          refine zk_T.adv 2 (f' := (3, [(0, .ref 52), (1, .int i), (2, .int hi), (3, .int fe), (4, .int ou), (5, .int ((nI j) + 1))], [])) (h' := zH (zb v 53 (upd (upd (upd (v 53) 5 wo) 6 ls) 7 kp)) w t) rfl ?_
          rw [nI_1]
          simp only [zl_oyG, zk_or, if_neg c2, if_pos c4, if_pos c5] at hk
          exact hk
        · have c5 : ¬ ((fe &&& (hi &&& ((1 : Int32) <<< ((nI j) &&& 31)))) = 0) := of_decide_eq_false c5
          refine zk_T.adv 7 (f' := (92, [(0, .ref 52), (1, .int i), (2, .int hi), (3, .int fe), (4, .int ou), (5, .int (nI j)), (6, .int (hi &&& ((1 : Int32) <<< ((nI j) &&& 31))))], [.int 0])) (h' := zH (zb v 53 (upd (upd (upd (upd (upd (v 53) 3 i) 4 (nI j)) 5 wo) 6 ls) 7 kp)) w t) rfl ?_
          simp only [zl_oyG, zk_or, if_neg c2, if_pos c4, if_neg c5] at hk
          exact zk_T.rt rfl rfl hk
      · have c4 : ¬ ((ou &&& (hi &&& ((1 : Int32) <<< ((nI j) &&& 31)))) = 0) := of_decide_eq_false c4
        refine zk_T.adv 15 (f' := (58, [(0, .ref 52), (1, .int i), (2, .int hi), (3, .int fe), (4, .int ou), (5, .int (nI j)), (6, .int (hi &&& ((1 : Int32) <<< ((nI j) &&& 31))))], [.int (ls - 1), .ref 52])) (h' := zH (zb v 53 (upd (upd (upd (v 53) 5 wo) 6 (ls - 1)) 7 (kp + 1))) w t) rfl ?_
        refine zk_T.br (f1 := (66, [(0, .ref 52), (1, .int i), (2, .int hi), (3, .int fe), (4, .int ou), (5, .int (nI j)), (6, .int (hi &&& ((1 : Int32) <<< ((nI j) &&& 31))))], [.ref 52])) (f2 := (61, [(0, .ref 52), (1, .int i), (2, .int hi), (3, .int fe), (4, .int ou), (5, .int (nI j)), (6, .int (hi &&& ((1 : Int32) <<< ((nI j) &&& 31))))], [.ref 52])) rfl (fun c6 => ?_) (fun c6 => ?_)
        · have c6 : (ls - 1) ≤ 0 := of_decide_eq_true c6
          refine zk_T.adv 5 (f' := (3, [(0, .ref 52), (1, .int i), (2, .int hi), (3, .int fe), (4, .int ou), (5, .int ((nI j) + 1))], [])) (h' := zH (zb v 53 (upd (upd (upd (v 53) 5 i) 6 (ls - 1)) 7 (kp + 1))) w t) rfl ?_
          rw [nI_1]
          simp only [zl_oyG, zk_or, if_neg c2, if_neg c4, if_pos c6] at hk
          exact hk
        · have c6 : ¬ ((ls - 1) ≤ 0) := of_decide_eq_false c6
          refine zk_T.adv 6 (f' := (3, [(0, .ref 52), (1, .int i), (2, .int hi), (3, .int fe), (4, .int ou), (5, .int ((nI j) + 1))], [])) (h' := zH (zb v 53 (upd (upd (upd (v 53) 5 (-2)) 6 (ls - 1)) 7 (kp + 1))) w t) rfl ?_
          rw [nI_1]
          simp only [zl_oyG, zk_or, if_neg c2, if_neg c4, if_neg c6] at hk
          exact hk
  · obtain ⟨wo, ls, kp⟩ := s
    show zk_T zk_mt zk_ex Ls xs zm_99 (3, [(0, .ref 52), (1, .int i), (2, .int hi), (3, .int fe), (4, .int ou), (5, .int (nI (0 + 8)))], []) (zH (zb v 53 (upd (upd (upd (v 53) 5 wo) 6 ls) 7 kp)) w t) q
    refine zk_T.adv 2 (f' := (7, [(0, .ref 52), (1, .int i), (2, .int hi), (3, .int fe), (4, .int ou), (5, .int (nI (0 + 8)))], [.int 8, .int (nI (0 + 8))])) (h' := zH (zb v 53 (upd (upd (upd (v 53) 5 wo) 6 ls) 7 kp)) w t) rfl ?_
    refine zk_T.br (f1 := (99, [(0, .ref 52), (1, .int i), (2, .int hi), (3, .int fe), (4, .int ou), (5, .int (nI (0 + 8)))], [])) (f2 := (10, [(0, .ref 52), (1, .int i), (2, .int hi), (3, .int fe), (4, .int ou), (5, .int (nI (0 + 8)))], [])) rfl (fun c1 => ?_) (fun c1 => absurd (by decide) (of_decide_eq_false c1))
    exact hk
  · exact trivial
/-- BasketKeep$Walk.outlastsYear -/
theorem zs_oyP (y : Nat) (hi fe ou : Int32) : zk_Cr zk_mt zk_ex Ls xs 99 [.ref 52, .int (nI y), .int hi, .int fe, .int ou] (zH v w t) (some (.int (zr_oy (v 53 3) (v 53 4) (v 53 5) (v 53 6) (v 53 7) y hi fe ou).1), zH (zb v 53 (upd (upd (upd (upd (upd (v 53) 3 ((zr_oy (v 53 3) (v 53 4) (v 53 5) (v 53 6) (v 53 7) y hi fe ou).2.1)) 4 ((zr_oy (v 53 3) (v 53 4) (v 53 5) (v 53 6) (v 53 7) y hi fe ou).2.2.1)) 5 ((zr_oy (v 53 3) (v 53 4) (v 53 5) (v 53 6) (v 53 7) y hi fe ou).2.2.2.1)) 6 ((zr_oy (v 53 3) (v 53 4) (v 53 5) (v 53 6) (v 53 7) y hi fe ou).2.2.2.2.1)) 7 ((zr_oy (v 53 3) (v 53 4) (v 53 5) (v 53 6) (v 53 7) y hi fe ou).2.2.2.2.2))) w t) := by
  refine zk_Cr.of (K := zm_99) rfl rfl rfl ?_
  show zk_T zk_mt zk_ex Ls xs zm_99 (0, [(0, .ref 52), (1, .int (nI y)), (2, .int hi), (3, .int fe), (4, .int ou)], []) (zH v w t) _
  refine zk_T.adv 2 (f' := (3, [(0, .ref 52), (1, .int (nI y)), (2, .int hi), (3, .int fe), (4, .int ou), (5, .int 0)], [])) (h' := zH v w t) rfl ?_
  refine zl_oyP (nI y) hi fe ou ((v 53 5), (v 53 6), (v 53 7)) _ ?_
  cases z1 : zfr (zl_oyG (v 53 3) (v 53 4) (nI y) hi fe ou) 8 0 ((v 53 5), (v 53 6), (v 53 7)) with
  | inl s =>
    show zk_T zk_mt zk_ex Ls xs zm_99 (99, [(0, .ref 52), (1, .int (nI y)), (2, .int hi), (3, .int fe), (4, .int ou), (5, .int (nI (0 + 8)))], []) (zH (zb v 53 (upd (upd (upd (v 53) 5 s.1) 6 s.2.1) 7 s.2.2)) w t) _
    refine zk_T.adv 1 (f' := (100, [(0, .ref 52), (1, .int (nI y)), (2, .int hi), (3, .int fe), (4, .int ou), (5, .int (nI (0 + 8)))], [.int 1])) (h' := zH (zb v 53 (upd (upd (upd (v 53) 5 s.1) 6 s.2.1) 7 s.2.2)) w t) rfl ?_
    exact zk_T.rt rfl rfl (by simp only [zr_oy, z1] <;> rfl)
  | inr r =>
    show ((some (Value.int r.1), zH (zb v 53 (upd (upd (upd (upd (upd (v 53) 3 r.2.1) 4 r.2.2.1) 5 r.2.2.2.1) 6 r.2.2.2.2.1) 7 r.2.2.2.2.2)) w t) : Option Value × zk_H) = _
    simp only [zr_oy, z1] <;> rfl
theorem zl_oyD (i hi fe ou : Int32) : ∀ (s : Int32 × Int32 × Int32) (q : Option Value × zk_H), zk_or (fun (s : Int32 × Int32 × Int32) => zk_T zk_mt zk_ex Ls xs zm_99 (99, [(0, .ref 58), (1, .int i), (2, .int hi), (3, .int fe), (4, .int ou), (5, .int (nI (0 + 8)))], []) (zH (zb v 58 (upd (upd (upd (v 58) 5 s.1) 6 s.2.1) 7 s.2.2)) w t) q) (fun (r : Int32 × Int32 × Int32 × Int32 × Int32 × Int32) => (some (.int r.1), zH (zb v 58 (upd (upd (upd (upd (upd (v 58) 3 r.2.1) 4 r.2.2.1) 5 r.2.2.2.1) 6 r.2.2.2.2.1) 7 r.2.2.2.2.2)) w t) = q) (zfr (zl_oyG (v 58 3) (v 58 4) i hi fe ou) 8 0 s) → zk_T zk_mt zk_ex Ls xs zm_99 (3, [(0, .ref 58), (1, .int i), (2, .int hi), (3, .int fe), (4, .int ou), (5, .int (nI 0))], []) (zH (zb v 58 (upd (upd (upd (v 58) 5 s.1) 6 s.2.1) 7 s.2.2)) w t) q := by
  intro s q hk
  refine zk_forX (M := zm_99) (fun j (s : Int32 × Int32 × Int32) => (3, [(0, .ref 58), (1, .int i), (2, .int hi), (3, .int fe), (4, .int ou), (5, .int (nI j))], [])) (fun _ (s : Int32 × Int32 × Int32) => zH (zb v 58 (upd (upd (upd (v 58) 5 s.1) 6 s.2.1) 7 s.2.2)) w t) (zl_oyG (v 58 3) (v 58 4) i hi fe ou) (fun _ _ => True) (fun (s : Int32 × Int32 × Int32) => (99, [(0, .ref 58), (1, .int i), (2, .int hi), (3, .int fe), (4, .int ou), (5, .int (nI (0 + 8)))], [])) (fun (s : Int32 × Int32 × Int32) => zH (zb v 58 (upd (upd (upd (v 58) 5 s.1) 6 s.2.1) 7 s.2.2)) w t) (fun r q => (some (.int r.1), zH (zb v 58 (upd (upd (upd (upd (upd (v 58) 3 r.2.1) 4 r.2.2.1) 5 r.2.2.2.1) 6 r.2.2.2.2.1) 7 r.2.2.2.2.2)) w t) = q) (8) 0 s (fun _ _ _ _ _ _ _ => trivial) (fun j s hj1 hj2 hp q hk => ?_) (fun s hp q hk => ?_) ?_ q hk
  · obtain ⟨wo, ls, kp⟩ := s
    show zk_T zk_mt zk_ex Ls xs zm_99 (3, [(0, .ref 58), (1, .int i), (2, .int hi), (3, .int fe), (4, .int ou), (5, .int (nI j))], []) (zH (zb v 58 (upd (upd (upd (v 58) 5 wo) 6 ls) 7 kp)) w t) q
    refine zk_T.adv 2 (f' := (7, [(0, .ref 58), (1, .int i), (2, .int hi), (3, .int fe), (4, .int ou), (5, .int (nI j))], [.int 8, .int (nI j)])) (h' := zH (zb v 58 (upd (upd (upd (v 58) 5 wo) 6 ls) 7 kp)) w t) rfl ?_
    refine zk_T.br (f1 := (99, [(0, .ref 58), (1, .int i), (2, .int hi), (3, .int fe), (4, .int ou), (5, .int (nI j))], [])) (f2 := (10, [(0, .ref 58), (1, .int i), (2, .int hi), (3, .int fe), (4, .int ou), (5, .int (nI j))], [])) rfl (fun c1 => absurd (of_decide_eq_true c1) (nI_ge (show j < 8 by omega) (by decide))) (fun c1 => ?_)
    refine zk_T.adv 8 (f' := (22, [(0, .ref 58), (1, .int i), (2, .int hi), (3, .int fe), (4, .int ou), (5, .int (nI j)), (6, .int (hi &&& ((1 : Int32) <<< ((nI j) &&& 31))))], [.int ls])) (h' := zH (zb v 58 (upd (upd (upd (v 58) 5 wo) 6 ls) 7 kp)) w t) rfl ?_
    refine zk_T.br (f1 := (73, [(0, .ref 58), (1, .int i), (2, .int hi), (3, .int fe), (4, .int ou), (5, .int (nI j)), (6, .int (hi &&& ((1 : Int32) <<< ((nI j) &&& 31))))], [])) (f2 := (25, [(0, .ref 58), (1, .int i), (2, .int hi), (3, .int fe), (4, .int ou), (5, .int (nI j)), (6, .int (hi &&& ((1 : Int32) <<< ((nI j) &&& 31))))], [])) rfl (fun c2 => ?_) (fun c2 => ?_)
    · have c2 : ls ≤ 0 := of_decide_eq_true c2
      refine zk_T.adv 3 (f' := (77, [(0, .ref 58), (1, .int i), (2, .int hi), (3, .int fe), (4, .int ou), (5, .int (nI j)), (6, .int (hi &&& ((1 : Int32) <<< ((nI j) &&& 31))))], [.int (fe &&& (hi &&& ((1 : Int32) <<< ((nI j) &&& 31))))])) (h' := zH (zb v 58 (upd (upd (upd (v 58) 5 wo) 6 ls) 7 kp)) w t) rfl ?_
      refine zk_T.br (f1 := (93, [(0, .ref 58), (1, .int i), (2, .int hi), (3, .int fe), (4, .int ou), (5, .int (nI j)), (6, .int (hi &&& ((1 : Int32) <<< ((nI j) &&& 31))))], [])) (f2 := (80, [(0, .ref 58), (1, .int i), (2, .int hi), (3, .int fe), (4, .int ou), (5, .int (nI j)), (6, .int (hi &&& ((1 : Int32) <<< ((nI j) &&& 31))))], [])) rfl (fun c3 => ?_) (fun c3 => ?_)
      · have c3 : (fe &&& (hi &&& ((1 : Int32) <<< ((nI j) &&& 31)))) = 0 := of_decide_eq_true c3
        refine zk_T.adv 2 (f' := (3, [(0, .ref 58), (1, .int i), (2, .int hi), (3, .int fe), (4, .int ou), (5, .int ((nI j) + 1))], [])) (h' := zH (zb v 58 (upd (upd (upd (v 58) 5 wo) 6 ls) 7 kp)) w t) rfl ?_
        rw [nI_1]
        simp only [zl_oyG, zk_or, if_pos c2, if_pos c3] at hk
        exact hk
      · have c3 : ¬ ((fe &&& (hi &&& ((1 : Int32) <<< ((nI j) &&& 31)))) = 0) := of_decide_eq_false c3
        refine zk_T.adv 7 (f' := (92, [(0, .ref 58), (1, .int i), (2, .int hi), (3, .int fe), (4, .int ou), (5, .int (nI j)), (6, .int (hi &&& ((1 : Int32) <<< ((nI j) &&& 31))))], [.int 0])) (h' := zH (zb v 58 (upd (upd (upd (upd (upd (v 58) 3 i) 4 (nI j)) 5 wo) 6 ls) 7 kp)) w t) rfl ?_
        simp only [zl_oyG, zk_or, if_pos c2, if_neg c3] at hk
        exact zk_T.rt rfl rfl hk
    · have c2 : ¬ (ls ≤ 0) := of_decide_eq_false c2
      refine zk_T.adv 3 (f' := (30, [(0, .ref 58), (1, .int i), (2, .int hi), (3, .int fe), (4, .int ou), (5, .int (nI j)), (6, .int (hi &&& ((1 : Int32) <<< ((nI j) &&& 31))))], [.int (ou &&& (hi &&& ((1 : Int32) <<< ((nI j) &&& 31))))])) (h' := zH (zb v 58 (upd (upd (upd (v 58) 5 wo) 6 ls) 7 kp)) w t) rfl ?_
      refine zk_T.br (f1 := (73, [(0, .ref 58), (1, .int i), (2, .int hi), (3, .int fe), (4, .int ou), (5, .int (nI j)), (6, .int (hi &&& ((1 : Int32) <<< ((nI j) &&& 31))))], [])) (f2 := (33, [(0, .ref 58), (1, .int i), (2, .int hi), (3, .int fe), (4, .int ou), (5, .int (nI j)), (6, .int (hi &&& ((1 : Int32) <<< ((nI j) &&& 31))))], [])) rfl (fun c4 => ?_) (fun c4 => ?_)
      · have c4 : (ou &&& (hi &&& ((1 : Int32) <<< ((nI j) &&& 31)))) = 0 := of_decide_eq_true c4
        refine zk_T.adv 3 (f' := (77, [(0, .ref 58), (1, .int i), (2, .int hi), (3, .int fe), (4, .int ou), (5, .int (nI j)), (6, .int (hi &&& ((1 : Int32) <<< ((nI j) &&& 31))))], [.int (fe &&& (hi &&& ((1 : Int32) <<< ((nI j) &&& 31))))])) (h' := zH (zb v 58 (upd (upd (upd (v 58) 5 wo) 6 ls) 7 kp)) w t) rfl ?_
        refine zk_T.br (f1 := (93, [(0, .ref 58), (1, .int i), (2, .int hi), (3, .int fe), (4, .int ou), (5, .int (nI j)), (6, .int (hi &&& ((1 : Int32) <<< ((nI j) &&& 31))))], [])) (f2 := (80, [(0, .ref 58), (1, .int i), (2, .int hi), (3, .int fe), (4, .int ou), (5, .int (nI j)), (6, .int (hi &&& ((1 : Int32) <<< ((nI j) &&& 31))))], [])) rfl (fun c5 => ?_) (fun c5 => ?_)
        · have c5 : (fe &&& (hi &&& ((1 : Int32) <<< ((nI j) &&& 31)))) = 0 := of_decide_eq_true c5
          refine zk_T.adv 2 (f' := (3, [(0, .ref 58), (1, .int i), (2, .int hi), (3, .int fe), (4, .int ou), (5, .int ((nI j) + 1))], [])) (h' := zH (zb v 58 (upd (upd (upd (v 58) 5 wo) 6 ls) 7 kp)) w t) rfl ?_
          rw [nI_1]
          simp only [zl_oyG, zk_or, if_neg c2, if_pos c4, if_pos c5] at hk
          exact hk
        · have c5 : ¬ ((fe &&& (hi &&& ((1 : Int32) <<< ((nI j) &&& 31)))) = 0) := of_decide_eq_false c5
          refine zk_T.adv 7 (f' := (92, [(0, .ref 58), (1, .int i), (2, .int hi), (3, .int fe), (4, .int ou), (5, .int (nI j)), (6, .int (hi &&& ((1 : Int32) <<< ((nI j) &&& 31))))], [.int 0])) (h' := zH (zb v 58 (upd (upd (upd (upd (upd (v 58) 3 i) 4 (nI j)) 5 wo) 6 ls) 7 kp)) w t) rfl ?_
          simp only [zl_oyG, zk_or, if_neg c2, if_pos c4, if_neg c5] at hk
          exact zk_T.rt rfl rfl hk
      · have c4 : ¬ ((ou &&& (hi &&& ((1 : Int32) <<< ((nI j) &&& 31)))) = 0) := of_decide_eq_false c4
        refine zk_T.adv 15 (f' := (58, [(0, .ref 58), (1, .int i), (2, .int hi), (3, .int fe), (4, .int ou), (5, .int (nI j)), (6, .int (hi &&& ((1 : Int32) <<< ((nI j) &&& 31))))], [.int (ls - 1), .ref 58])) (h' := zH (zb v 58 (upd (upd (upd (v 58) 5 wo) 6 (ls - 1)) 7 (kp + 1))) w t) rfl ?_
        refine zk_T.br (f1 := (66, [(0, .ref 58), (1, .int i), (2, .int hi), (3, .int fe), (4, .int ou), (5, .int (nI j)), (6, .int (hi &&& ((1 : Int32) <<< ((nI j) &&& 31))))], [.ref 58])) (f2 := (61, [(0, .ref 58), (1, .int i), (2, .int hi), (3, .int fe), (4, .int ou), (5, .int (nI j)), (6, .int (hi &&& ((1 : Int32) <<< ((nI j) &&& 31))))], [.ref 58])) rfl (fun c6 => ?_) (fun c6 => ?_)
        · have c6 : (ls - 1) ≤ 0 := of_decide_eq_true c6
          refine zk_T.adv 5 (f' := (3, [(0, .ref 58), (1, .int i), (2, .int hi), (3, .int fe), (4, .int ou), (5, .int ((nI j) + 1))], [])) (h' := zH (zb v 58 (upd (upd (upd (v 58) 5 i) 6 (ls - 1)) 7 (kp + 1))) w t) rfl ?_
          rw [nI_1]
          simp only [zl_oyG, zk_or, if_neg c2, if_neg c4, if_pos c6] at hk
          exact hk
        · have c6 : ¬ ((ls - 1) ≤ 0) := of_decide_eq_false c6
          refine zk_T.adv 6 (f' := (3, [(0, .ref 58), (1, .int i), (2, .int hi), (3, .int fe), (4, .int ou), (5, .int ((nI j) + 1))], [])) (h' := zH (zb v 58 (upd (upd (upd (v 58) 5 (-2)) 6 (ls - 1)) 7 (kp + 1))) w t) rfl ?_
          rw [nI_1]
          simp only [zl_oyG, zk_or, if_neg c2, if_neg c4, if_neg c6] at hk
          exact hk
  · obtain ⟨wo, ls, kp⟩ := s
    show zk_T zk_mt zk_ex Ls xs zm_99 (3, [(0, .ref 58), (1, .int i), (2, .int hi), (3, .int fe), (4, .int ou), (5, .int (nI (0 + 8)))], []) (zH (zb v 58 (upd (upd (upd (v 58) 5 wo) 6 ls) 7 kp)) w t) q
    refine zk_T.adv 2 (f' := (7, [(0, .ref 58), (1, .int i), (2, .int hi), (3, .int fe), (4, .int ou), (5, .int (nI (0 + 8)))], [.int 8, .int (nI (0 + 8))])) (h' := zH (zb v 58 (upd (upd (upd (v 58) 5 wo) 6 ls) 7 kp)) w t) rfl ?_
    refine zk_T.br (f1 := (99, [(0, .ref 58), (1, .int i), (2, .int hi), (3, .int fe), (4, .int ou), (5, .int (nI (0 + 8)))], [])) (f2 := (10, [(0, .ref 58), (1, .int i), (2, .int hi), (3, .int fe), (4, .int ou), (5, .int (nI (0 + 8)))], [])) rfl (fun c1 => ?_) (fun c1 => absurd (by decide) (of_decide_eq_false c1))
    exact hk
  · exact trivial
/-- BasketKeep$Walk.outlastsYear -/
theorem zs_oyD (y : Nat) (hi fe ou : Int32) : zk_Cr zk_mt zk_ex Ls xs 99 [.ref 58, .int (nI y), .int hi, .int fe, .int ou] (zH v w t) (some (.int (zr_oy (v 58 3) (v 58 4) (v 58 5) (v 58 6) (v 58 7) y hi fe ou).1), zH (zb v 58 (upd (upd (upd (upd (upd (v 58) 3 ((zr_oy (v 58 3) (v 58 4) (v 58 5) (v 58 6) (v 58 7) y hi fe ou).2.1)) 4 ((zr_oy (v 58 3) (v 58 4) (v 58 5) (v 58 6) (v 58 7) y hi fe ou).2.2.1)) 5 ((zr_oy (v 58 3) (v 58 4) (v 58 5) (v 58 6) (v 58 7) y hi fe ou).2.2.2.1)) 6 ((zr_oy (v 58 3) (v 58 4) (v 58 5) (v 58 6) (v 58 7) y hi fe ou).2.2.2.2.1)) 7 ((zr_oy (v 58 3) (v 58 4) (v 58 5) (v 58 6) (v 58 7) y hi fe ou).2.2.2.2.2))) w t) := by
  refine zk_Cr.of (K := zm_99) rfl rfl rfl ?_
  show zk_T zk_mt zk_ex Ls xs zm_99 (0, [(0, .ref 58), (1, .int (nI y)), (2, .int hi), (3, .int fe), (4, .int ou)], []) (zH v w t) _
  refine zk_T.adv 2 (f' := (3, [(0, .ref 58), (1, .int (nI y)), (2, .int hi), (3, .int fe), (4, .int ou), (5, .int 0)], [])) (h' := zH v w t) rfl ?_
  refine zl_oyD (nI y) hi fe ou ((v 58 5), (v 58 6), (v 58 7)) _ ?_
  cases z1 : zfr (zl_oyG (v 58 3) (v 58 4) (nI y) hi fe ou) 8 0 ((v 58 5), (v 58 6), (v 58 7)) with
  | inl s =>
    show zk_T zk_mt zk_ex Ls xs zm_99 (99, [(0, .ref 58), (1, .int (nI y)), (2, .int hi), (3, .int fe), (4, .int ou), (5, .int (nI (0 + 8)))], []) (zH (zb v 58 (upd (upd (upd (v 58) 5 s.1) 6 s.2.1) 7 s.2.2)) w t) _
    refine zk_T.adv 1 (f' := (100, [(0, .ref 58), (1, .int (nI y)), (2, .int hi), (3, .int fe), (4, .int ou), (5, .int (nI (0 + 8)))], [.int 1])) (h' := zH (zb v 58 (upd (upd (upd (v 58) 5 s.1) 6 s.2.1) 7 s.2.2)) w t) rfl ?_
    exact zk_T.rt rfl rfl (by simp only [zr_oy, z1] <;> rfl)
  | inr r =>
    show ((some (Value.int r.1), zH (zb v 58 (upd (upd (upd (upd (upd (v 58) 3 r.2.1) 4 r.2.2.1) 5 r.2.2.2.1) 6 r.2.2.2.2.1) 7 r.2.2.2.2.2)) w t) : Option Value × zk_H) = _
    simp only [zr_oy, z1] <;> rfl
theorem zl_oyH (i hi fe ou : Int32) : ∀ (s : Int32 × Int32 × Int32) (q : Option Value × zk_H), zk_or (fun (s : Int32 × Int32 × Int32) => zk_T zk_mt zk_ex Ls xs zm_99 (99, [(0, .ref 65), (1, .int i), (2, .int hi), (3, .int fe), (4, .int ou), (5, .int (nI (0 + 8)))], []) (zH (zb v 65 (upd (upd (upd (v 65) 5 s.1) 6 s.2.1) 7 s.2.2)) w t) q) (fun (r : Int32 × Int32 × Int32 × Int32 × Int32 × Int32) => (some (.int r.1), zH (zb v 65 (upd (upd (upd (upd (upd (v 65) 3 r.2.1) 4 r.2.2.1) 5 r.2.2.2.1) 6 r.2.2.2.2.1) 7 r.2.2.2.2.2)) w t) = q) (zfr (zl_oyG (v 65 3) (v 65 4) i hi fe ou) 8 0 s) → zk_T zk_mt zk_ex Ls xs zm_99 (3, [(0, .ref 65), (1, .int i), (2, .int hi), (3, .int fe), (4, .int ou), (5, .int (nI 0))], []) (zH (zb v 65 (upd (upd (upd (v 65) 5 s.1) 6 s.2.1) 7 s.2.2)) w t) q := by
  intro s q hk
  refine zk_forX (M := zm_99) (fun j (s : Int32 × Int32 × Int32) => (3, [(0, .ref 65), (1, .int i), (2, .int hi), (3, .int fe), (4, .int ou), (5, .int (nI j))], [])) (fun _ (s : Int32 × Int32 × Int32) => zH (zb v 65 (upd (upd (upd (v 65) 5 s.1) 6 s.2.1) 7 s.2.2)) w t) (zl_oyG (v 65 3) (v 65 4) i hi fe ou) (fun _ _ => True) (fun (s : Int32 × Int32 × Int32) => (99, [(0, .ref 65), (1, .int i), (2, .int hi), (3, .int fe), (4, .int ou), (5, .int (nI (0 + 8)))], [])) (fun (s : Int32 × Int32 × Int32) => zH (zb v 65 (upd (upd (upd (v 65) 5 s.1) 6 s.2.1) 7 s.2.2)) w t) (fun r q => (some (.int r.1), zH (zb v 65 (upd (upd (upd (upd (upd (v 65) 3 r.2.1) 4 r.2.2.1) 5 r.2.2.2.1) 6 r.2.2.2.2.1) 7 r.2.2.2.2.2)) w t) = q) (8) 0 s (fun _ _ _ _ _ _ _ => trivial) (fun j s hj1 hj2 hp q hk => ?_) (fun s hp q hk => ?_) ?_ q hk
  · obtain ⟨wo, ls, kp⟩ := s
    show zk_T zk_mt zk_ex Ls xs zm_99 (3, [(0, .ref 65), (1, .int i), (2, .int hi), (3, .int fe), (4, .int ou), (5, .int (nI j))], []) (zH (zb v 65 (upd (upd (upd (v 65) 5 wo) 6 ls) 7 kp)) w t) q
    refine zk_T.adv 2 (f' := (7, [(0, .ref 65), (1, .int i), (2, .int hi), (3, .int fe), (4, .int ou), (5, .int (nI j))], [.int 8, .int (nI j)])) (h' := zH (zb v 65 (upd (upd (upd (v 65) 5 wo) 6 ls) 7 kp)) w t) rfl ?_
    refine zk_T.br (f1 := (99, [(0, .ref 65), (1, .int i), (2, .int hi), (3, .int fe), (4, .int ou), (5, .int (nI j))], [])) (f2 := (10, [(0, .ref 65), (1, .int i), (2, .int hi), (3, .int fe), (4, .int ou), (5, .int (nI j))], [])) rfl (fun c1 => absurd (of_decide_eq_true c1) (nI_ge (show j < 8 by omega) (by decide))) (fun c1 => ?_)
    refine zk_T.adv 8 (f' := (22, [(0, .ref 65), (1, .int i), (2, .int hi), (3, .int fe), (4, .int ou), (5, .int (nI j)), (6, .int (hi &&& ((1 : Int32) <<< ((nI j) &&& 31))))], [.int ls])) (h' := zH (zb v 65 (upd (upd (upd (v 65) 5 wo) 6 ls) 7 kp)) w t) rfl ?_
    refine zk_T.br (f1 := (73, [(0, .ref 65), (1, .int i), (2, .int hi), (3, .int fe), (4, .int ou), (5, .int (nI j)), (6, .int (hi &&& ((1 : Int32) <<< ((nI j) &&& 31))))], [])) (f2 := (25, [(0, .ref 65), (1, .int i), (2, .int hi), (3, .int fe), (4, .int ou), (5, .int (nI j)), (6, .int (hi &&& ((1 : Int32) <<< ((nI j) &&& 31))))], [])) rfl (fun c2 => ?_) (fun c2 => ?_)
    · have c2 : ls ≤ 0 := of_decide_eq_true c2
      refine zk_T.adv 3 (f' := (77, [(0, .ref 65), (1, .int i), (2, .int hi), (3, .int fe), (4, .int ou), (5, .int (nI j)), (6, .int (hi &&& ((1 : Int32) <<< ((nI j) &&& 31))))], [.int (fe &&& (hi &&& ((1 : Int32) <<< ((nI j) &&& 31))))])) (h' := zH (zb v 65 (upd (upd (upd (v 65) 5 wo) 6 ls) 7 kp)) w t) rfl ?_
      refine zk_T.br (f1 := (93, [(0, .ref 65), (1, .int i), (2, .int hi), (3, .int fe), (4, .int ou), (5, .int (nI j)), (6, .int (hi &&& ((1 : Int32) <<< ((nI j) &&& 31))))], [])) (f2 := (80, [(0, .ref 65), (1, .int i), (2, .int hi), (3, .int fe), (4, .int ou), (5, .int (nI j)), (6, .int (hi &&& ((1 : Int32) <<< ((nI j) &&& 31))))], [])) rfl (fun c3 => ?_) (fun c3 => ?_)
      · have c3 : (fe &&& (hi &&& ((1 : Int32) <<< ((nI j) &&& 31)))) = 0 := of_decide_eq_true c3
        refine zk_T.adv 2 (f' := (3, [(0, .ref 65), (1, .int i), (2, .int hi), (3, .int fe), (4, .int ou), (5, .int ((nI j) + 1))], [])) (h' := zH (zb v 65 (upd (upd (upd (v 65) 5 wo) 6 ls) 7 kp)) w t) rfl ?_
        rw [nI_1]
        simp only [zl_oyG, zk_or, if_pos c2, if_pos c3] at hk
        exact hk
      · have c3 : ¬ ((fe &&& (hi &&& ((1 : Int32) <<< ((nI j) &&& 31)))) = 0) := of_decide_eq_false c3
        refine zk_T.adv 7 (f' := (92, [(0, .ref 65), (1, .int i), (2, .int hi), (3, .int fe), (4, .int ou), (5, .int (nI j)), (6, .int (hi &&& ((1 : Int32) <<< ((nI j) &&& 31))))], [.int 0])) (h' := zH (zb v 65 (upd (upd (upd (upd (upd (v 65) 3 i) 4 (nI j)) 5 wo) 6 ls) 7 kp)) w t) rfl ?_
        simp only [zl_oyG, zk_or, if_pos c2, if_neg c3] at hk
        exact zk_T.rt rfl rfl hk
    · have c2 : ¬ (ls ≤ 0) := of_decide_eq_false c2
      refine zk_T.adv 3 (f' := (30, [(0, .ref 65), (1, .int i), (2, .int hi), (3, .int fe), (4, .int ou), (5, .int (nI j)), (6, .int (hi &&& ((1 : Int32) <<< ((nI j) &&& 31))))], [.int (ou &&& (hi &&& ((1 : Int32) <<< ((nI j) &&& 31))))])) (h' := zH (zb v 65 (upd (upd (upd (v 65) 5 wo) 6 ls) 7 kp)) w t) rfl ?_
      refine zk_T.br (f1 := (73, [(0, .ref 65), (1, .int i), (2, .int hi), (3, .int fe), (4, .int ou), (5, .int (nI j)), (6, .int (hi &&& ((1 : Int32) <<< ((nI j) &&& 31))))], [])) (f2 := (33, [(0, .ref 65), (1, .int i), (2, .int hi), (3, .int fe), (4, .int ou), (5, .int (nI j)), (6, .int (hi &&& ((1 : Int32) <<< ((nI j) &&& 31))))], [])) rfl (fun c4 => ?_) (fun c4 => ?_)
      · have c4 : (ou &&& (hi &&& ((1 : Int32) <<< ((nI j) &&& 31)))) = 0 := of_decide_eq_true c4
        refine zk_T.adv 3 (f' := (77, [(0, .ref 65), (1, .int i), (2, .int hi), (3, .int fe), (4, .int ou), (5, .int (nI j)), (6, .int (hi &&& ((1 : Int32) <<< ((nI j) &&& 31))))], [.int (fe &&& (hi &&& ((1 : Int32) <<< ((nI j) &&& 31))))])) (h' := zH (zb v 65 (upd (upd (upd (v 65) 5 wo) 6 ls) 7 kp)) w t) rfl ?_
        refine zk_T.br (f1 := (93, [(0, .ref 65), (1, .int i), (2, .int hi), (3, .int fe), (4, .int ou), (5, .int (nI j)), (6, .int (hi &&& ((1 : Int32) <<< ((nI j) &&& 31))))], [])) (f2 := (80, [(0, .ref 65), (1, .int i), (2, .int hi), (3, .int fe), (4, .int ou), (5, .int (nI j)), (6, .int (hi &&& ((1 : Int32) <<< ((nI j) &&& 31))))], [])) rfl (fun c5 => ?_) (fun c5 => ?_)
        · have c5 : (fe &&& (hi &&& ((1 : Int32) <<< ((nI j) &&& 31)))) = 0 := of_decide_eq_true c5
          refine zk_T.adv 2 (f' := (3, [(0, .ref 65), (1, .int i), (2, .int hi), (3, .int fe), (4, .int ou), (5, .int ((nI j) + 1))], [])) (h' := zH (zb v 65 (upd (upd (upd (v 65) 5 wo) 6 ls) 7 kp)) w t) rfl ?_
          rw [nI_1]
          simp only [zl_oyG, zk_or, if_neg c2, if_pos c4, if_pos c5] at hk
          exact hk
        · have c5 : ¬ ((fe &&& (hi &&& ((1 : Int32) <<< ((nI j) &&& 31)))) = 0) := of_decide_eq_false c5
          refine zk_T.adv 7 (f' := (92, [(0, .ref 65), (1, .int i), (2, .int hi), (3, .int fe), (4, .int ou), (5, .int (nI j)), (6, .int (hi &&& ((1 : Int32) <<< ((nI j) &&& 31))))], [.int 0])) (h' := zH (zb v 65 (upd (upd (upd (upd (upd (v 65) 3 i) 4 (nI j)) 5 wo) 6 ls) 7 kp)) w t) rfl ?_
          simp only [zl_oyG, zk_or, if_neg c2, if_pos c4, if_neg c5] at hk
          exact zk_T.rt rfl rfl hk
      · have c4 : ¬ ((ou &&& (hi &&& ((1 : Int32) <<< ((nI j) &&& 31)))) = 0) := of_decide_eq_false c4
        refine zk_T.adv 15 (f' := (58, [(0, .ref 65), (1, .int i), (2, .int hi), (3, .int fe), (4, .int ou), (5, .int (nI j)), (6, .int (hi &&& ((1 : Int32) <<< ((nI j) &&& 31))))], [.int (ls - 1), .ref 65])) (h' := zH (zb v 65 (upd (upd (upd (v 65) 5 wo) 6 (ls - 1)) 7 (kp + 1))) w t) rfl ?_
        refine zk_T.br (f1 := (66, [(0, .ref 65), (1, .int i), (2, .int hi), (3, .int fe), (4, .int ou), (5, .int (nI j)), (6, .int (hi &&& ((1 : Int32) <<< ((nI j) &&& 31))))], [.ref 65])) (f2 := (61, [(0, .ref 65), (1, .int i), (2, .int hi), (3, .int fe), (4, .int ou), (5, .int (nI j)), (6, .int (hi &&& ((1 : Int32) <<< ((nI j) &&& 31))))], [.ref 65])) rfl (fun c6 => ?_) (fun c6 => ?_)
        · have c6 : (ls - 1) ≤ 0 := of_decide_eq_true c6
          refine zk_T.adv 5 (f' := (3, [(0, .ref 65), (1, .int i), (2, .int hi), (3, .int fe), (4, .int ou), (5, .int ((nI j) + 1))], [])) (h' := zH (zb v 65 (upd (upd (upd (v 65) 5 i) 6 (ls - 1)) 7 (kp + 1))) w t) rfl ?_
          rw [nI_1]
          simp only [zl_oyG, zk_or, if_neg c2, if_neg c4, if_pos c6] at hk
          exact hk
        · have c6 : ¬ ((ls - 1) ≤ 0) := of_decide_eq_false c6
          refine zk_T.adv 6 (f' := (3, [(0, .ref 65), (1, .int i), (2, .int hi), (3, .int fe), (4, .int ou), (5, .int ((nI j) + 1))], [])) (h' := zH (zb v 65 (upd (upd (upd (v 65) 5 (-2)) 6 (ls - 1)) 7 (kp + 1))) w t) rfl ?_
          rw [nI_1]
          simp only [zl_oyG, zk_or, if_neg c2, if_neg c4, if_neg c6] at hk
          exact hk
  · obtain ⟨wo, ls, kp⟩ := s
    show zk_T zk_mt zk_ex Ls xs zm_99 (3, [(0, .ref 65), (1, .int i), (2, .int hi), (3, .int fe), (4, .int ou), (5, .int (nI (0 + 8)))], []) (zH (zb v 65 (upd (upd (upd (v 65) 5 wo) 6 ls) 7 kp)) w t) q
    refine zk_T.adv 2 (f' := (7, [(0, .ref 65), (1, .int i), (2, .int hi), (3, .int fe), (4, .int ou), (5, .int (nI (0 + 8)))], [.int 8, .int (nI (0 + 8))])) (h' := zH (zb v 65 (upd (upd (upd (v 65) 5 wo) 6 ls) 7 kp)) w t) rfl ?_
    refine zk_T.br (f1 := (99, [(0, .ref 65), (1, .int i), (2, .int hi), (3, .int fe), (4, .int ou), (5, .int (nI (0 + 8)))], [])) (f2 := (10, [(0, .ref 65), (1, .int i), (2, .int hi), (3, .int fe), (4, .int ou), (5, .int (nI (0 + 8)))], [])) rfl (fun c1 => ?_) (fun c1 => absurd (by decide) (of_decide_eq_false c1))
    exact hk
  · exact trivial
/-- BasketKeep$Walk.outlastsYear -/
theorem zs_oyH (y : Nat) (hi fe ou : Int32) : zk_Cr zk_mt zk_ex Ls xs 99 [.ref 65, .int (nI y), .int hi, .int fe, .int ou] (zH v w t) (some (.int (zr_oy (v 65 3) (v 65 4) (v 65 5) (v 65 6) (v 65 7) y hi fe ou).1), zH (zb v 65 (upd (upd (upd (upd (upd (v 65) 3 ((zr_oy (v 65 3) (v 65 4) (v 65 5) (v 65 6) (v 65 7) y hi fe ou).2.1)) 4 ((zr_oy (v 65 3) (v 65 4) (v 65 5) (v 65 6) (v 65 7) y hi fe ou).2.2.1)) 5 ((zr_oy (v 65 3) (v 65 4) (v 65 5) (v 65 6) (v 65 7) y hi fe ou).2.2.2.1)) 6 ((zr_oy (v 65 3) (v 65 4) (v 65 5) (v 65 6) (v 65 7) y hi fe ou).2.2.2.2.1)) 7 ((zr_oy (v 65 3) (v 65 4) (v 65 5) (v 65 6) (v 65 7) y hi fe ou).2.2.2.2.2))) w t) := by
  refine zk_Cr.of (K := zm_99) rfl rfl rfl ?_
  show zk_T zk_mt zk_ex Ls xs zm_99 (0, [(0, .ref 65), (1, .int (nI y)), (2, .int hi), (3, .int fe), (4, .int ou)], []) (zH v w t) _
  refine zk_T.adv 2 (f' := (3, [(0, .ref 65), (1, .int (nI y)), (2, .int hi), (3, .int fe), (4, .int ou), (5, .int 0)], [])) (h' := zH v w t) rfl ?_
  refine zl_oyH (nI y) hi fe ou ((v 65 5), (v 65 6), (v 65 7)) _ ?_
  cases z1 : zfr (zl_oyG (v 65 3) (v 65 4) (nI y) hi fe ou) 8 0 ((v 65 5), (v 65 6), (v 65 7)) with
  | inl s =>
    show zk_T zk_mt zk_ex Ls xs zm_99 (99, [(0, .ref 65), (1, .int (nI y)), (2, .int hi), (3, .int fe), (4, .int ou), (5, .int (nI (0 + 8)))], []) (zH (zb v 65 (upd (upd (upd (v 65) 5 s.1) 6 s.2.1) 7 s.2.2)) w t) _
    refine zk_T.adv 1 (f' := (100, [(0, .ref 65), (1, .int (nI y)), (2, .int hi), (3, .int fe), (4, .int ou), (5, .int (nI (0 + 8)))], [.int 1])) (h' := zH (zb v 65 (upd (upd (upd (v 65) 5 s.1) 6 s.2.1) 7 s.2.2)) w t) rfl ?_
    exact zk_T.rt rfl rfl (by simp only [zr_oy, z1] <;> rfl)
  | inr r =>
    show ((some (Value.int r.1), zH (zb v 65 (upd (upd (upd (upd (upd (v 65) 3 r.2.1) 4 r.2.2.1) 5 r.2.2.2.1) 6 r.2.2.2.2.1) 7 r.2.2.2.2.2)) w t) : Option Value × zk_H) = _
    simp only [zr_oy, z1] <;> rfl
end Z24
