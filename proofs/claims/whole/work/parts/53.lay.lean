/-! contracts: the reference: goods to baskets, thoughts -/
section Z53
variable {Ls : Nat} {xs : Nat → Int32} {v : Nat → Nat → Int32} {w : Nat → Nat → Int64} {t : zk_H}
def zl_mstillG (D : Nat) (rr st : Nat → Int32) (j : Nat) (s : Unit) : (Unit) ⊕ Int32 := match s with
  | () => if (zr_mstrikersIn D (rr) ((st 15) + (nI j))) = 0 then .inr (nI j) else .inl ()
theorem zl_mstill (D : Nat) (hD : v 71 1 = nI D) (h8 : D ≤ 8) (hev : ∀ d, d < D → ¬ v 71 (7 + 2 * d) = 0) : ∀ (s : Unit) (q : Option Value × zk_H), zk_or (fun (s : Unit) => zk_T zk_mt zk_ex Ls xs zm_126 (49, [(0, .ref 69), (1, .int (nI (1 + 60)))], []) (zH (zb v 68 (upd (upd (v 68) 0 0) 11 0)) w t) q) (fun (r : Int32) => (some (.int r), zH (zb v 68 (upd (upd (v 68) 0 0) 11 0)) w t) = q) (zfr (zl_mstillG D (v 71) (v 75)) 60 1 s) → zk_T zk_mt zk_ex Ls xs zm_126 (19, [(0, .ref 69), (1, .int (nI 1))], []) (zH (zb v 68 (upd (upd (v 68) 0 0) 11 0)) w t) q := by
  intro s q hk
  refine zk_forX (M := zm_126) (fun j (s : Unit) => (19, [(0, .ref 69), (1, .int (nI j))], [])) (fun _ (s : Unit) => zH (zb v 68 (upd (upd (v 68) 0 0) 11 0)) w t) (zl_mstillG D (v 71) (v 75)) (fun _ _ => True) (fun (s : Unit) => (49, [(0, .ref 69), (1, .int (nI (1 + 60)))], [])) (fun (s : Unit) => zH (zb v 68 (upd (upd (v 68) 0 0) 11 0)) w t) (fun r q => (some (.int r), zH (zb v 68 (upd (upd (v 68) 0 0) 11 0)) w t) = q) (60) 1 s (fun _ _ _ _ _ _ _ => trivial) (fun j s hj1 hj2 hp q hk => ?_) (fun s hp q hk => ?_) ?_ q hk
  · have hz := True.intro
    show zk_T zk_mt zk_ex Ls xs zm_126 (19, [(0, .ref 69), (1, .int (nI j))], []) (zH (zb v 68 (upd (upd (v 68) 0 0) 11 0)) w t) q
    refine zk_T.adv 2 (f' := (22, [(0, .ref 69), (1, .int (nI j))], [.int 60, .int (nI j)])) (h' := zH (zb v 68 (upd (upd (v 68) 0 0) 11 0)) w t) rfl ?_
    refine zk_T.br (f1 := (49, [(0, .ref 69), (1, .int (nI j))], [])) (f2 := (25, [(0, .ref 69), (1, .int (nI j))], [])) rfl (fun c1 => absurd (of_decide_eq_true c1) (nI_nlt (a := 60) (b := j) (by omega) (by decide))) (fun c1 => ?_)
    refine zk_T.adv 4 (f' := (32, [(0, .ref 69), (1, .int (nI j))], [.int 15, .ref 76, .ref 69])) (h' := zH (zb v 68 (upd (upd (v 68) 0 0) 11 0)) w t) rfl ?_
    refine zk_T.ob (f' := (33, [(0, .ref 69), (1, .int (nI j))], [.int (v 75 (15 : Int32).toNatClampNeg), .ref 69])) (h' := zH (zb v 68 (upd (upd (v 68) 0 0) 11 0)) w t) rfl rfl ?_
    show zk_T zk_mt zk_ex Ls xs zm_126 (33, [(0, .ref 69), (1, .int (nI j))], [.int (v 75 15), .ref 69]) (zH (zb v 68 (upd (upd (v 68) 0 0) 11 0)) w t) _
    refine zk_T.adv 2 (f' := (35, [(0, .ref 69), (1, .int (nI j))], [.int ((v 75 15) + (nI j)), .ref 69])) (h' := zH (zb v 68 (upd (upd (v 68) 0 0) 11 0)) w t) rfl ?_
    refine zk_T.cl (v := some (.int (zr_mstrikersIn D (v 71) ((v 75 15) + (nI j))))) (h' := zH (zb v 68 (upd (upd (v 68) 0 0) 11 0)) w t) rfl (zs_mstrikersIn (v := (zb v 68 (upd (upd (v 68) 0 0) 11 0))) D hD h8 hev ((v 75 15) + (nI j))) ?_
    show zk_T zk_mt zk_ex Ls xs zm_126 (38, [(0, .ref 69), (1, .int (nI j))], [.int (zr_mstrikersIn D (v 71) ((v 75 15) + (nI j)))]) (zH (zb v 68 (upd (upd (v 68) 0 0) 11 0)) w t) _
    refine zk_T.br (f1 := (41, [(0, .ref 69), (1, .int (nI j))], [])) (f2 := (43, [(0, .ref 69), (1, .int (nI j))], [])) rfl (fun c2 => ?_) (fun c2 => ?_)
    · have c2 : (zr_mstrikersIn D (v 71) ((v 75 15) + (nI j))) = 0 := of_decide_eq_true c2
      refine zk_T.adv 1 (f' := (42, [(0, .ref 69), (1, .int (nI j))], [.int (nI j)])) (h' := zH (zb v 68 (upd (upd (v 68) 0 0) 11 0)) w t) rfl ?_
      simp only [zl_mstillG, zk_or, if_pos c2] at hk
      exact zk_T.rt rfl rfl hk
    · have c2 : ¬ ((zr_mstrikersIn D (v 71) ((v 75 15) + (nI j))) = 0) := of_decide_eq_false c2
      refine zk_T.adv 2 (f' := (19, [(0, .ref 69), (1, .int ((nI j) + 1))], [])) (h' := zH (zb v 68 (upd (upd (v 68) 0 0) 11 0)) w t) rfl ?_
      rw [nI_1]
      simp only [zl_mstillG, zk_or, if_neg c2] at hk
      exact hk
  · have hz := True.intro
    show zk_T zk_mt zk_ex Ls xs zm_126 (19, [(0, .ref 69), (1, .int (nI (1 + 60)))], []) (zH (zb v 68 (upd (upd (v 68) 0 0) 11 0)) w t) q
    refine zk_T.adv 2 (f' := (22, [(0, .ref 69), (1, .int (nI (1 + 60)))], [.int 60, .int (nI (1 + 60))])) (h' := zH (zb v 68 (upd (upd (v 68) 0 0) 11 0)) w t) rfl ?_
    refine zk_T.br (f1 := (49, [(0, .ref 69), (1, .int (nI (1 + 60)))], [])) (f2 := (25, [(0, .ref 69), (1, .int (nI (1 + 60)))], [])) rfl (fun c1 => ?_) (fun c1 => absurd (show (60 : Int32) < nI (1 + 60) from by decide) (of_decide_eq_false c1))
    exact hk
  · exact trivial
/-- BasketKeepModel.still -/
theorem zM_still_t (hst : v 68 14 = 0) : zk_Cr zk_mt zk_ex Ls xs 126 [.ref 69] (zH v w t) (some (.int (-1)), zH (zb v 68 (upd (upd (v 68) 0 0) 11 1)) w t) := by
  refine zk_Cr.of (K := zm_126) rfl rfl rfl ?_
  show zk_T zk_mt zk_ex Ls xs zm_126 (0, [(0, .ref 69)], []) (zH v w t) _
  refine zk_T.adv 1 (f' := (1, [(0, .ref 69)], [.ref 69])) (h' := zH v w t) rfl ?_
  refine zk_T.cl (v := none) (h' := zH (zb v 68 (upd (upd (v 68) 0 0) 11 0)) w t) rfl (zs_manew (v := v) (w := w)) ?_
  show zk_T zk_mt zk_ex Ls xs zm_126 (4, [(0, .ref 69)], []) (zH (zb v 68 (upd (upd (v 68) 0 0) 11 0)) w t) _
  refine zk_T.adv 2 (f' := (8, [(0, .ref 69)], [.int (v 68 14)])) (h' := zH (zb v 68 (upd (upd (v 68) 0 0) 11 0)) w t) rfl ?_
  rw [show (v 68 14) = 0 from hst]
  refine zk_T.br (f1 := (11, [(0, .ref 69)], [])) (f2 := (17, [(0, .ref 69)], [])) rfl (fun c1 => ?_) (fun c1 => absurd (by decide) (of_decide_eq_false c1))
  refine zk_T.adv 2 (f' := (13, [(0, .ref 69)], [.int 1, .ref 69])) (h' := zH (zb v 68 (upd (upd (v 68) 0 0) 11 0)) w t) rfl ?_
  refine zk_T.cl (v := some (.int (-1))) (h' := zH (zb v 68 (upd (upd (v 68) 0 0) 11 1)) w t) rfl (zs_mno (v := (zb v 68 (upd (upd (v 68) 0 0) 11 0))) (w := w) 1) ?_
  show zk_T zk_mt zk_ex Ls xs zm_126 (16, [(0, .ref 69)], [.int (-1)]) (zH (zb v 68 (upd (upd (v 68) 0 0) 11 1)) w t) _
  exact zk_T.rt rfl rfl (by rfl)
def zr_mstill (D : Nat) (rr st : Nat → Int32) : Int32 := match zfr (zl_mstillG D (rr) (st)) 60 1 () with | .inl s => (-2) | .inr r => r
/-- BasketKeepModel.still -/
theorem zM_still_f (hst : v 68 14 = 1) (D : Nat) (hD : v 71 1 = nI D) (h8 : D ≤ 8) (hev : ∀ d, d < D → ¬ v 71 (7 + 2 * d) = 0) : zk_Cr zk_mt zk_ex Ls xs 126 [.ref 69] (zH v w t) (some (.int (zr_mstill D (v 71) (v 75))), zH (zb v 68 (upd (upd (v 68) 0 0) 11 0)) w t) := by
  refine zk_Cr.of (K := zm_126) rfl rfl rfl ?_
  show zk_T zk_mt zk_ex Ls xs zm_126 (0, [(0, .ref 69)], []) (zH v w t) _
  refine zk_T.adv 1 (f' := (1, [(0, .ref 69)], [.ref 69])) (h' := zH v w t) rfl ?_
  refine zk_T.cl (v := none) (h' := zH (zb v 68 (upd (upd (v 68) 0 0) 11 0)) w t) rfl (zs_manew (v := v) (w := w)) ?_
  show zk_T zk_mt zk_ex Ls xs zm_126 (4, [(0, .ref 69)], []) (zH (zb v 68 (upd (upd (v 68) 0 0) 11 0)) w t) _
  refine zk_T.adv 2 (f' := (8, [(0, .ref 69)], [.int (v 68 14)])) (h' := zH (zb v 68 (upd (upd (v 68) 0 0) 11 0)) w t) rfl ?_
  rw [show (v 68 14) = 1 from hst]
  refine zk_T.br (f1 := (11, [(0, .ref 69)], [])) (f2 := (17, [(0, .ref 69)], [])) rfl (fun c1 => absurd (of_decide_eq_true c1) (by decide)) (fun c1 => ?_)
  refine zk_T.adv 2 (f' := (19, [(0, .ref 69), (1, .int 1)], [])) (h' := zH (zb v 68 (upd (upd (v 68) 0 0) 11 0)) w t) rfl ?_
  refine zl_mstill (v := v) (w := w) (t := t) D hD h8 hev () _ ?_
  cases z2 : zfr (zl_mstillG D (v 71) (v 75)) 60 1 () with
  | inl s =>
    show zk_T zk_mt zk_ex Ls xs zm_126 (49, [(0, .ref 69), (1, .int (nI (1 + 60)))], []) (zH (zb v 68 (upd (upd (v 68) 0 0) 11 0)) w t) _
    refine zk_T.adv 1 (f' := (51, [(0, .ref 69), (1, .int (nI (1 + 60)))], [.int (-2)])) (h' := zH (zb v 68 (upd (upd (v 68) 0 0) 11 0)) w t) rfl ?_
    exact zk_T.rt rfl rfl (by simp only [zr_mstill, z2])
  | inr r =>
    show ((some (Value.int r), zH (zb v 68 (upd (upd (v 68) 0 0) 11 0)) w t) : Option Value × zk_H) = _
    simp only [zr_mstill, z2]
def zl_mopenG (Mn Gn : Nat) (r st : Nat → Int32) (j : Nat) (s : Int32) : Int32 := match s with
  | a => if (zr_mfearers Gn (r) (nI j)) = 0 then a ||| 0 else (if (zr_mthinkers Mn (st) (nI j)) = 0 then a ||| ((1 : Int32) <<< ((nI j) &&& 31)) else a ||| 0)
theorem zl_mopen (D : Nat) (hD : v 71 1 = nI D) (h8 : D ≤ 8) (Mn : Nat) (hM : v 71 2 = nI Mn) (h5 : Mn ≤ 5) (Gn : Nat) (hG : v 71 3 = nI Gn) (h4 : Gn ≤ 4) : ∀ (s : Int32) (q : Option Value × zk_H), zk_T zk_mt zk_ex Ls xs zm_171 ((fun (s : Int32) => ((63, [(0, .ref 69), (1, .int s), (2, .int (nI (0 + D)))], []) : zk_F)) (zf (zl_mopenG Mn Gn (v 71) (v 75)) D 0 s)) ((fun (s : Int32) => zH v w t) (zf (zl_mopenG Mn Gn (v 71) (v 75)) D 0 s)) q → zk_T zk_mt zk_ex Ls xs zm_171 (21, [(0, .ref 69), (1, .int s), (2, .int (nI 0))], []) (zH v w t) q := by
  intro s q hk
  refine zk_forK (M := zm_171) (fun j (s : Int32) => (21, [(0, .ref 69), (1, .int s), (2, .int (nI j))], [])) (fun _ (s : Int32) => zH v w t) (zl_mopenG Mn Gn (v 71) (v 75)) (fun _ _ => True) (fun (s : Int32) => (63, [(0, .ref 69), (1, .int s), (2, .int (nI (0 + D)))], [])) (fun (s : Int32) => zH v w t) (D) 0 s (fun _ _ _ _ _ => trivial) (fun j s hj1 hj2 hp q hk => ?_) (fun s hp q hk => ?_) ?_ q hk
  · have hz := True.intro
    obtain ⟨a, rfl⟩ : ∃ z, z = s := ⟨_, rfl⟩
    show zk_T zk_mt zk_ex Ls xs zm_171 (21, [(0, .ref 69), (1, .int a), (2, .int (nI j))], []) (zH v w t) q
    refine zk_T.adv 4 (f' := (27, [(0, .ref 69), (1, .int a), (2, .int (nI j))], [.int 1, .ref 72, .int (nI j)])) (h' := zH v w t) rfl ?_
    refine zk_T.ob (f' := (28, [(0, .ref 69), (1, .int a), (2, .int (nI j))], [.int (v 71 (1 : Int32).toNatClampNeg), .int (nI j)])) (h' := zH v w t) rfl rfl ?_
    show zk_T zk_mt zk_ex Ls xs zm_171 (28, [(0, .ref 69), (1, .int a), (2, .int (nI j))], [.int (v 71 1), .int (nI j)]) (zH v w t) _
    refine zk_T.br (f1 := (63, [(0, .ref 69), (1, .int a), (2, .int (nI j))], [])) (f2 := (31, [(0, .ref 69), (1, .int a), (2, .int (nI j))], [])) rfl (fun c1 => absurd (of_decide_eq_true c1) (by rw [show _ = nI D from hD]; exact nI_ge (show j < D by omega) (by omega))) (fun c1 => ?_)
    refine zk_T.adv 3 (f' := (34, [(0, .ref 69), (1, .int a), (2, .int (nI j))], [.int (nI j), .ref 69, .int a])) (h' := zH v w t) rfl ?_
    refine zk_T.cl (v := some (.int (zr_mfearers Gn (v 71) (nI j)))) (h' := zH v w t) rfl (zs_mfearers (v := v) (w := w) Gn hG h4 (nI j)) ?_
    show zk_T zk_mt zk_ex Ls xs zm_171 (37, [(0, .ref 69), (1, .int a), (2, .int (nI j))], [.int (zr_mfearers Gn (v 71) (nI j)), .int a]) (zH v w t) _
    refine zk_T.br (f1 := (54, [(0, .ref 69), (1, .int a), (2, .int (nI j))], [.int a])) (f2 := (40, [(0, .ref 69), (1, .int a), (2, .int (nI j))], [.int a])) rfl (fun c2 => ?_) (fun c2 => ?_)
    · have c2 : (zr_mfearers Gn (v 71) (nI j)) = 0 := of_decide_eq_true c2
      refine zk_T.adv 5 (f' := (21, [(0, .ref 69), (1, .int (a ||| 0)), (2, .int ((nI j) + 1))], [])) (h' := zH v w t) rfl ?_
      rw [nI_1]
      simp only [zl_mopenG, if_pos c2] at hk
      exact hk
    · have c2 : ¬ ((zr_mfearers Gn (v 71) (nI j)) = 0) := of_decide_eq_false c2
      refine zk_T.adv 2 (f' := (42, [(0, .ref 69), (1, .int a), (2, .int (nI j))], [.int (nI j), .ref 69, .int a])) (h' := zH v w t) rfl ?_
      refine zk_T.cl (v := some (.int (zr_mthinkers Mn (v 75) (nI j)))) (h' := zH v w t) rfl (zs_mthinkers (v := v) (w := w) Mn hM h5 (nI j)) ?_
      show zk_T zk_mt zk_ex Ls xs zm_171 (45, [(0, .ref 69), (1, .int a), (2, .int (nI j))], [.int (zr_mthinkers Mn (v 75) (nI j)), .int a]) (zH v w t) _
      refine zk_T.br (f1 := (48, [(0, .ref 69), (1, .int a), (2, .int (nI j))], [.int a])) (f2 := (54, [(0, .ref 69), (1, .int a), (2, .int (nI j))], [.int a])) rfl (fun c3 => ?_) (fun c3 => ?_)
      · have c3 : (zr_mthinkers Mn (v 75) (nI j)) = 0 := of_decide_eq_true c3
        refine zk_T.adv 8 (f' := (21, [(0, .ref 69), (1, .int (a ||| ((1 : Int32) <<< ((nI j) &&& 31)))), (2, .int ((nI j) + 1))], [])) (h' := zH v w t) rfl ?_
        rw [nI_1]
        simp only [zl_mopenG, if_neg c2, if_pos c3] at hk
        exact hk
      · have c3 : ¬ ((zr_mthinkers Mn (v 75) (nI j)) = 0) := of_decide_eq_false c3
        refine zk_T.adv 5 (f' := (21, [(0, .ref 69), (1, .int (a ||| 0)), (2, .int ((nI j) + 1))], [])) (h' := zH v w t) rfl ?_
        rw [nI_1]
        simp only [zl_mopenG, if_neg c2, if_neg c3] at hk
        exact hk
  · have hz := True.intro
    obtain ⟨a, rfl⟩ : ∃ z, z = s := ⟨_, rfl⟩
    show zk_T zk_mt zk_ex Ls xs zm_171 (21, [(0, .ref 69), (1, .int a), (2, .int (nI (0 + D)))], []) (zH v w t) q
    refine zk_T.adv 4 (f' := (27, [(0, .ref 69), (1, .int a), (2, .int (nI (0 + D)))], [.int 1, .ref 72, .int (nI (0 + D))])) (h' := zH v w t) rfl ?_
    refine zk_T.ob (f' := (28, [(0, .ref 69), (1, .int a), (2, .int (nI (0 + D)))], [.int (v 71 (1 : Int32).toNatClampNeg), .int (nI (0 + D))])) (h' := zH v w t) rfl rfl ?_
    show zk_T zk_mt zk_ex Ls xs zm_171 (28, [(0, .ref 69), (1, .int a), (2, .int (nI (0 + D)))], [.int (v 71 1), .int (nI (0 + D))]) (zH v w t) _
    refine zk_T.br (f1 := (63, [(0, .ref 69), (1, .int a), (2, .int (nI (0 + D)))], [])) (f2 := (31, [(0, .ref 69), (1, .int a), (2, .int (nI (0 + D)))], [])) rfl (fun c1 => ?_) (fun c1 => absurd (by rw [show _ = nI D from hD, Nat.zero_add]; exact nI_le (Nat.le_refl _) (by omega)) (of_decide_eq_false c1))
    exact hk
  · exact trivial
/-- BasketKeepModel.open -/
theorem zM_open_t (hst : v 68 14 = 0) : zk_Cr zk_mt zk_ex Ls xs 171 [.ref 69] (zH v w t) (some (.int (-1)), zH (zb v 68 (upd (upd (v 68) 0 0) 11 1)) w t) := by
  refine zk_Cr.of (K := zm_171) rfl rfl rfl ?_
  show zk_T zk_mt zk_ex Ls xs zm_171 (0, [(0, .ref 69)], []) (zH v w t) _
  refine zk_T.adv 1 (f' := (1, [(0, .ref 69)], [.ref 69])) (h' := zH v w t) rfl ?_
  refine zk_T.cl (v := none) (h' := zH (zb v 68 (upd (upd (v 68) 0 0) 11 0)) w t) rfl (zs_manew (v := v) (w := w)) ?_
  show zk_T zk_mt zk_ex Ls xs zm_171 (4, [(0, .ref 69)], []) (zH (zb v 68 (upd (upd (v 68) 0 0) 11 0)) w t) _
  refine zk_T.adv 2 (f' := (8, [(0, .ref 69)], [.int (v 68 14)])) (h' := zH (zb v 68 (upd (upd (v 68) 0 0) 11 0)) w t) rfl ?_
  rw [show (v 68 14) = 0 from hst]
  refine zk_T.br (f1 := (11, [(0, .ref 69)], [])) (f2 := (17, [(0, .ref 69)], [])) rfl (fun c1 => ?_) (fun c1 => absurd (by decide) (of_decide_eq_false c1))
  refine zk_T.adv 2 (f' := (13, [(0, .ref 69)], [.int 1, .ref 69])) (h' := zH (zb v 68 (upd (upd (v 68) 0 0) 11 0)) w t) rfl ?_
  refine zk_T.cl (v := some (.int (-1))) (h' := zH (zb v 68 (upd (upd (v 68) 0 0) 11 1)) w t) rfl (zs_mno (v := (zb v 68 (upd (upd (v 68) 0 0) 11 0))) (w := w) 1) ?_
  show zk_T zk_mt zk_ex Ls xs zm_171 (16, [(0, .ref 69)], [.int (-1)]) (zH (zb v 68 (upd (upd (v 68) 0 0) 11 1)) w t) _
  exact zk_T.rt rfl rfl (by rfl)
def zr_mopen (D Mn Gn : Nat) (r st : Nat → Int32) : Int32 := (zf (zl_mopenG Mn Gn (r) (st)) D 0 0)
/-- BasketKeepModel.open -/
theorem zM_open_f (hst : v 68 14 = 1) (D : Nat) (hD : v 71 1 = nI D) (h8 : D ≤ 8) (Mn : Nat) (hM : v 71 2 = nI Mn) (h5 : Mn ≤ 5) (Gn : Nat) (hG : v 71 3 = nI Gn) (h4 : Gn ≤ 4) : zk_Cr zk_mt zk_ex Ls xs 171 [.ref 69] (zH v w t) (some (.int (zr_mopen D Mn Gn (v 71) (v 75))), zH (zb v 68 (upd (upd (v 68) 0 0) 11 0)) w t) := by
  refine zk_Cr.of (K := zm_171) rfl rfl rfl ?_
  show zk_T zk_mt zk_ex Ls xs zm_171 (0, [(0, .ref 69)], []) (zH v w t) _
  refine zk_T.adv 1 (f' := (1, [(0, .ref 69)], [.ref 69])) (h' := zH v w t) rfl ?_
  refine zk_T.cl (v := none) (h' := zH (zb v 68 (upd (upd (v 68) 0 0) 11 0)) w t) rfl (zs_manew (v := v) (w := w)) ?_
  show zk_T zk_mt zk_ex Ls xs zm_171 (4, [(0, .ref 69)], []) (zH (zb v 68 (upd (upd (v 68) 0 0) 11 0)) w t) _
  refine zk_T.adv 2 (f' := (8, [(0, .ref 69)], [.int (v 68 14)])) (h' := zH (zb v 68 (upd (upd (v 68) 0 0) 11 0)) w t) rfl ?_
  rw [show (v 68 14) = 1 from hst]
  refine zk_T.br (f1 := (11, [(0, .ref 69)], [])) (f2 := (17, [(0, .ref 69)], [])) rfl (fun c1 => absurd (of_decide_eq_true c1) (by decide)) (fun c1 => ?_)
  refine zk_T.adv 4 (f' := (21, [(0, .ref 69), (1, .int 0), (2, .int 0)], [])) (h' := zH (zb v 68 (upd (upd (v 68) 0 0) 11 0)) w t) rfl ?_
  refine zl_mopen (v := (zb v 68 (upd (upd (v 68) 0 0) 11 0))) (w := w) (t := t) D hD h8 Mn hM h5 Gn hG h4 0 _ ?_
  show zk_T zk_mt zk_ex Ls xs zm_171 (63, [(0, .ref 69), (1, .int (zf (zl_mopenG Mn Gn (v 71) (v 75)) D 0 0)), (2, .int (nI (0 + D)))], []) (zH (zb v 68 (upd (upd (v 68) 0 0) 11 0)) w t) _
  refine zk_T.adv 1 (f' := (64, [(0, .ref 69), (1, .int (zf (zl_mopenG Mn Gn (v 71) (v 75)) D 0 0)), (2, .int (nI (0 + D)))], [.int (zf (zl_mopenG Mn Gn (v 71) (v 75)) D 0 0)])) (h' := zH (zb v 68 (upd (upd (v 68) 0 0) 11 0)) w t) rfl ?_
  exact zk_T.rt rfl rfl (by rfl)
/-- BasketKeepModel.vain -/
theorem zM_vain_t (x : Int32) (hg : zr_misX (v 68 14) (v 71 2) x = 0) : zk_Cr zk_mt zk_ex Ls xs 181 [.ref 69, .int x] (zH v w t) (some (.int (-1)), zH (zb v 68 (upd (upd (v 68) 0 0) 11 1)) w t) := by
  refine zk_Cr.of (K := zm_181) rfl rfl rfl ?_
  show zk_T zk_mt zk_ex Ls xs zm_181 (0, [(0, .ref 69), (1, .int x)], []) (zH v w t) _
  refine zk_T.adv 1 (f' := (1, [(0, .ref 69), (1, .int x)], [.ref 69])) (h' := zH v w t) rfl ?_
  refine zk_T.cl (v := none) (h' := zH (zb v 68 (upd (upd (v 68) 0 0) 11 0)) w t) rfl (zs_manew (v := v) (w := w)) ?_
  show zk_T zk_mt zk_ex Ls xs zm_181 (4, [(0, .ref 69), (1, .int x)], []) (zH (zb v 68 (upd (upd (v 68) 0 0) 11 0)) w t) _
  refine zk_T.adv 2 (f' := (6, [(0, .ref 69), (1, .int x)], [.int x, .ref 69])) (h' := zH (zb v 68 (upd (upd (v 68) 0 0) 11 0)) w t) rfl ?_
  refine zk_T.cl (v := some (.int 0)) (h' := zH (zb v 68 (upd (upd (v 68) 0 0) 11 0)) w t) rfl (by have ee_ : zk_Cr zk_mt zk_ex Ls xs 118 [.ref 69, .int x] (zH (zb v 68 (upd (upd (v 68) 0 0) 11 0)) w t) (some (.int (zr_misX (v 68 14) (v 71 2) x)), zH (zb v 68 (upd (upd (v 68) 0 0) 11 0)) w t) := zs_misMaker (v := (zb v 68 (upd (upd (v 68) 0 0) 11 0))) (w := w) x; rw [show (zr_misX (v 68 14) (v 71 2) x) = 0 from hg] at ee_; exact ee_) ?_
  show zk_T zk_mt zk_ex Ls xs zm_181 (9, [(0, .ref 69), (1, .int x)], [.int 0]) (zH (zb v 68 (upd (upd (v 68) 0 0) 11 0)) w t) _
  refine zk_T.br (f1 := (12, [(0, .ref 69), (1, .int x)], [])) (f2 := (18, [(0, .ref 69), (1, .int x)], [])) rfl (fun c1 => ?_) (fun c1 => absurd (by decide) (of_decide_eq_false c1))
  refine zk_T.adv 2 (f' := (14, [(0, .ref 69), (1, .int x)], [.int 1, .ref 69])) (h' := zH (zb v 68 (upd (upd (v 68) 0 0) 11 0)) w t) rfl ?_
  refine zk_T.cl (v := some (.int (-1))) (h' := zH (zb v 68 (upd (upd (v 68) 0 0) 11 1)) w t) rfl (zs_mno (v := (zb v 68 (upd (upd (v 68) 0 0) 11 0))) (w := w) 1) ?_
  show zk_T zk_mt zk_ex Ls xs zm_181 (17, [(0, .ref 69), (1, .int x)], [.int (-1)]) (zH (zb v 68 (upd (upd (v 68) 0 0) 11 1)) w t) _
  exact zk_T.rt rfl rfl (by rfl)
/-- BasketKeepModel.vain -/
theorem zM_vain_n (e : Nat) (he : e < 5) (hg : zr_misX (v 68 14) (v 71 2) (nI e) = 1) (Gn : Nat) (hG : v 71 3 = nI Gn) (h4 : Gn ≤ 4) (hgi : zr_mgoodIn Gn (v 75) (nI e) = -2) : zk_Cr zk_mt zk_ex Ls xs 181 [.ref 69, .int (nI e)] (zH v w t) (some (.int (v 75 (5 + e))), zH (zb v 68 (upd (upd (v 68) 0 0) 11 0)) w t) := by
  refine zk_Cr.of (K := zm_181) rfl rfl rfl ?_
  show zk_T zk_mt zk_ex Ls xs zm_181 (0, [(0, .ref 69), (1, .int (nI e))], []) (zH v w t) _
  refine zk_T.adv 1 (f' := (1, [(0, .ref 69), (1, .int (nI e))], [.ref 69])) (h' := zH v w t) rfl ?_
  refine zk_T.cl (v := none) (h' := zH (zb v 68 (upd (upd (v 68) 0 0) 11 0)) w t) rfl (zs_manew (v := v) (w := w)) ?_
  show zk_T zk_mt zk_ex Ls xs zm_181 (4, [(0, .ref 69), (1, .int (nI e))], []) (zH (zb v 68 (upd (upd (v 68) 0 0) 11 0)) w t) _
  refine zk_T.adv 2 (f' := (6, [(0, .ref 69), (1, .int (nI e))], [.int (nI e), .ref 69])) (h' := zH (zb v 68 (upd (upd (v 68) 0 0) 11 0)) w t) rfl ?_
  refine zk_T.cl (v := some (.int 1)) (h' := zH (zb v 68 (upd (upd (v 68) 0 0) 11 0)) w t) rfl (by have ee_ : zk_Cr zk_mt zk_ex Ls xs 118 [.ref 69, .int (nI e)] (zH (zb v 68 (upd (upd (v 68) 0 0) 11 0)) w t) (some (.int (zr_misX (v 68 14) (v 71 2) (nI e))), zH (zb v 68 (upd (upd (v 68) 0 0) 11 0)) w t) := zs_misMaker (v := (zb v 68 (upd (upd (v 68) 0 0) 11 0))) (w := w) (nI e); rw [show (zr_misX (v 68 14) (v 71 2) (nI e)) = 1 from hg] at ee_; exact ee_) ?_
  show zk_T zk_mt zk_ex Ls xs zm_181 (9, [(0, .ref 69), (1, .int (nI e))], [.int 1]) (zH (zb v 68 (upd (upd (v 68) 0 0) 11 0)) w t) _
  refine zk_T.br (f1 := (12, [(0, .ref 69), (1, .int (nI e))], [])) (f2 := (18, [(0, .ref 69), (1, .int (nI e))], [])) rfl (fun c1 => absurd (of_decide_eq_true c1) (by decide)) (fun c1 => ?_)
  refine zk_T.adv 2 (f' := (20, [(0, .ref 69), (1, .int (nI e))], [.int (nI e), .ref 69])) (h' := zH (zb v 68 (upd (upd (v 68) 0 0) 11 0)) w t) rfl ?_
  refine zk_T.cl (v := some (.int (-2))) (h' := zH (zb v 68 (upd (upd (v 68) 0 0) 11 0)) w t) rfl (by have ee_ : zk_Cr zk_mt zk_ex Ls xs 48 [.ref 69, .int (nI e)] (zH (zb v 68 (upd (upd (v 68) 0 0) 11 0)) w t) (some (.int (zr_mgoodIn Gn (v 75) (nI e))), zH (zb v 68 (upd (upd (v 68) 0 0) 11 0)) w t) := zs_mgoodIn (v := (zb v 68 (upd (upd (v 68) 0 0) 11 0))) (w := w) Gn hG h4 (nI e); rw [show (zr_mgoodIn Gn (v 75) (nI e)) = (-2) from hgi] at ee_; exact ee_) ?_
  show zk_T zk_mt zk_ex Ls xs zm_181 (23, [(0, .ref 69), (1, .int (nI e))], [.int (-2)]) (zH (zb v 68 (upd (upd (v 68) 0 0) 11 0)) w t) _
  refine zk_T.adv 2 (f' := (25, [(0, .ref 69), (1, .int (nI e)), (2, .int (-2))], [.int (-2)])) (h' := zH (zb v 68 (upd (upd (v 68) 0 0) 11 0)) w t) rfl ?_
  refine zk_T.br (f1 := (39, [(0, .ref 69), (1, .int (nI e)), (2, .int (-2))], [])) (f2 := (28, [(0, .ref 69), (1, .int (nI e)), (2, .int (-2))], [])) rfl (fun c2 => absurd (of_decide_eq_true c2) (by decide)) (fun c2 => ?_)
  refine zk_T.adv 5 (f' := (35, [(0, .ref 69), (1, .int (nI e)), (2, .int (-2))], [.int (5 + (nI e)), .ref 76])) (h' := zH (zb v 68 (upd (upd (v 68) 0 0) 11 0)) w t) rfl ?_
  rw [show 5 + (nI e) = nI (5 + e) from nI_add 5 e]
  refine zk_T.ob (f' := (36, [(0, .ref 69), (1, .int (nI e)), (2, .int (-2))], [.int (v 75 (nI (5 + e)).toNatClampNeg)])) (h' := zH (zb v 68 (upd (upd (v 68) 0 0) 11 0)) w t) rfl (by first | exact zk_inN (by omega) (by decide) | decide) ?_
  rw [nI_clamp (show (5 + e) < 2 ^ 31 by omega)]
  refine zk_T.adv 1 (f' := (63, [(0, .ref 69), (1, .int (nI e)), (2, .int (-2))], [.int (v 75 (5 + e))])) (h' := zH (zb v 68 (upd (upd (v 68) 0 0) 11 0)) w t) rfl ?_
  exact zk_T.rt rfl rfl (by rfl)
/-- BasketKeepModel.vain -/
theorem zM_vain_f (e : Nat) (he : e < 5) (hg : zr_misX (v 68 14) (v 71 2) (nI e) = 1) (Gn : Nat) (hG : v 71 3 = nI Gn) (h4 : Gn ≤ 4) (a : Nat) (ha : a < 4) (hgi : zr_mgoodIn Gn (v 75) (nI e) = nI a) : zk_Cr zk_mt zk_ex Ls xs 181 [.ref 69, .int (nI e)] (zH v w t) (some (.int ((v 75 (5 + e)) &&& ((v 71 ((33 + (2 * a)) + 1)) ^^^ (-1)))), zH (zb v 68 (upd (upd (v 68) 0 0) 11 0)) w t) := by
  refine zk_Cr.of (K := zm_181) rfl rfl rfl ?_
  show zk_T zk_mt zk_ex Ls xs zm_181 (0, [(0, .ref 69), (1, .int (nI e))], []) (zH v w t) _
  refine zk_T.adv 1 (f' := (1, [(0, .ref 69), (1, .int (nI e))], [.ref 69])) (h' := zH v w t) rfl ?_
  refine zk_T.cl (v := none) (h' := zH (zb v 68 (upd (upd (v 68) 0 0) 11 0)) w t) rfl (zs_manew (v := v) (w := w)) ?_
  show zk_T zk_mt zk_ex Ls xs zm_181 (4, [(0, .ref 69), (1, .int (nI e))], []) (zH (zb v 68 (upd (upd (v 68) 0 0) 11 0)) w t) _
  refine zk_T.adv 2 (f' := (6, [(0, .ref 69), (1, .int (nI e))], [.int (nI e), .ref 69])) (h' := zH (zb v 68 (upd (upd (v 68) 0 0) 11 0)) w t) rfl ?_
  refine zk_T.cl (v := some (.int 1)) (h' := zH (zb v 68 (upd (upd (v 68) 0 0) 11 0)) w t) rfl (by have ee_ : zk_Cr zk_mt zk_ex Ls xs 118 [.ref 69, .int (nI e)] (zH (zb v 68 (upd (upd (v 68) 0 0) 11 0)) w t) (some (.int (zr_misX (v 68 14) (v 71 2) (nI e))), zH (zb v 68 (upd (upd (v 68) 0 0) 11 0)) w t) := zs_misMaker (v := (zb v 68 (upd (upd (v 68) 0 0) 11 0))) (w := w) (nI e); rw [show (zr_misX (v 68 14) (v 71 2) (nI e)) = 1 from hg] at ee_; exact ee_) ?_
  show zk_T zk_mt zk_ex Ls xs zm_181 (9, [(0, .ref 69), (1, .int (nI e))], [.int 1]) (zH (zb v 68 (upd (upd (v 68) 0 0) 11 0)) w t) _
  refine zk_T.br (f1 := (12, [(0, .ref 69), (1, .int (nI e))], [])) (f2 := (18, [(0, .ref 69), (1, .int (nI e))], [])) rfl (fun c1 => absurd (of_decide_eq_true c1) (by decide)) (fun c1 => ?_)
  refine zk_T.adv 2 (f' := (20, [(0, .ref 69), (1, .int (nI e))], [.int (nI e), .ref 69])) (h' := zH (zb v 68 (upd (upd (v 68) 0 0) 11 0)) w t) rfl ?_
  refine zk_T.cl (v := some (.int (nI a))) (h' := zH (zb v 68 (upd (upd (v 68) 0 0) 11 0)) w t) rfl (by have ee_ : zk_Cr zk_mt zk_ex Ls xs 48 [.ref 69, .int (nI e)] (zH (zb v 68 (upd (upd (v 68) 0 0) 11 0)) w t) (some (.int (zr_mgoodIn Gn (v 75) (nI e))), zH (zb v 68 (upd (upd (v 68) 0 0) 11 0)) w t) := zs_mgoodIn (v := (zb v 68 (upd (upd (v 68) 0 0) 11 0))) (w := w) Gn hG h4 (nI e); rw [show (zr_mgoodIn Gn (v 75) (nI e)) = (nI a) from hgi] at ee_; exact ee_) ?_
  show zk_T zk_mt zk_ex Ls xs zm_181 (23, [(0, .ref 69), (1, .int (nI e))], [.int (nI a)]) (zH (zb v 68 (upd (upd (v 68) 0 0) 11 0)) w t) _
  refine zk_T.adv 2 (f' := (25, [(0, .ref 69), (1, .int (nI e)), (2, .int (nI a))], [.int (nI a)])) (h' := zH (zb v 68 (upd (upd (v 68) 0 0) 11 0)) w t) rfl ?_
  refine zk_T.br (f1 := (39, [(0, .ref 69), (1, .int (nI e)), (2, .int (nI a))], [])) (f2 := (28, [(0, .ref 69), (1, .int (nI e)), (2, .int (nI a))], [])) rfl (fun c2 => ?_) (fun c2 => absurd (nI_pos' (by omega)) (of_decide_eq_false c2))
  refine zk_T.adv 5 (f' := (46, [(0, .ref 69), (1, .int (nI e)), (2, .int (nI a))], [.int (5 + (nI e)), .ref 76])) (h' := zH (zb v 68 (upd (upd (v 68) 0 0) 11 0)) w t) rfl ?_
  rw [show 5 + (nI e) = nI (5 + e) from nI_add 5 e]
  refine zk_T.ob (f' := (47, [(0, .ref 69), (1, .int (nI e)), (2, .int (nI a))], [.int (v 75 (nI (5 + e)).toNatClampNeg)])) (h' := zH (zb v 68 (upd (upd (v 68) 0 0) 11 0)) w t) rfl (by first | exact zk_inN (by omega) (by decide) | decide) ?_
  rw [nI_clamp (show (5 + e) < 2 ^ 31 by omega)]
  refine zk_T.adv 6 (f' := (56, [(0, .ref 69), (1, .int (nI e)), (2, .int (nI a))], [.int (2 * (nI a)), .int 33, .ref 72, .int (v 75 (5 + e))])) (h' := zH (zb v 68 (upd (upd (v 68) 0 0) 11 0)) w t) rfl ?_
  rw [show 2 * (nI a) = nI (2 * a) from pk_mul 2 a]
  refine zk_T.adv 1 (f' := (57, [(0, .ref 69), (1, .int (nI e)), (2, .int (nI a))], [.int (33 + (nI (2 * a))), .ref 72, .int (v 75 (5 + e))])) (h' := zH (zb v 68 (upd (upd (v 68) 0 0) 11 0)) w t) rfl ?_
  rw [show 33 + (nI (2 * a)) = nI (33 + (2 * a)) from nI_add 33 (2 * a)]
  refine zk_T.adv 2 (f' := (59, [(0, .ref 69), (1, .int (nI e)), (2, .int (nI a))], [.int ((nI (33 + (2 * a))) + 1), .ref 72, .int (v 75 (5 + e))])) (h' := zH (zb v 68 (upd (upd (v 68) 0 0) 11 0)) w t) rfl ?_
  rw [show (nI (33 + (2 * a))) + 1 = nI ((33 + (2 * a)) + 1) from nI_add (33 + (2 * a)) 1]
  refine zk_T.ob (f' := (60, [(0, .ref 69), (1, .int (nI e)), (2, .int (nI a))], [.int (v 71 (nI ((33 + (2 * a)) + 1)).toNatClampNeg), .int (v 75 (5 + e))])) (h' := zH (zb v 68 (upd (upd (v 68) 0 0) 11 0)) w t) rfl (by first | exact zk_inN (by omega) (by decide) | decide) ?_
  rw [nI_clamp (show ((33 + (2 * a)) + 1) < 2 ^ 31 by omega)]
  refine zk_T.adv 3 (f' := (63, [(0, .ref 69), (1, .int (nI e)), (2, .int (nI a))], [.int ((v 75 (5 + e)) &&& ((v 71 ((33 + (2 * a)) + 1)) ^^^ (-1)))])) (h' := zH (zb v 68 (upd (upd (v 68) 0 0) 11 0)) w t) rfl ?_
  exact zk_T.rt rfl rfl (by rfl)
/-- BasketKeepModel.worthIf -/
theorem zM_worthIf_t (x y n : Int32) (hg : zr_misX (v 68 14) (v 71 3) x = 0) : zk_Cr zk_mt zk_ex Ls xs 248 [.ref 69, .int x, .int y, .int n] (zH v w t) (some (.int (-1)), zH (zb v 68 (upd (upd (v 68) 0 0) 11 1)) w t) := by
  refine zk_Cr.of (K := zm_248) rfl rfl rfl ?_
  show zk_T zk_mt zk_ex Ls xs zm_248 (0, [(0, .ref 69), (1, .int x), (2, .int y), (3, .int n)], []) (zH v w t) _
  refine zk_T.adv 1 (f' := (1, [(0, .ref 69), (1, .int x), (2, .int y), (3, .int n)], [.ref 69])) (h' := zH v w t) rfl ?_
  refine zk_T.cl (v := none) (h' := zH (zb v 68 (upd (upd (v 68) 0 0) 11 0)) w t) rfl (zs_manew (v := v) (w := w)) ?_
  show zk_T zk_mt zk_ex Ls xs zm_248 (4, [(0, .ref 69), (1, .int x), (2, .int y), (3, .int n)], []) (zH (zb v 68 (upd (upd (v 68) 0 0) 11 0)) w t) _
  refine zk_T.adv 3 (f' := (7, [(0, .ref 69), (1, .int x), (2, .int y), (3, .int n)], [.int x, .ref 69, .ref 69])) (h' := zH (zb v 68 (upd (upd (v 68) 0 0) 11 0)) w t) rfl ?_
  refine zk_T.cl (v := some (.int 0)) (h' := zH (zb v 68 (upd (upd (v 68) 0 0) 11 0)) w t) rfl (by have ee_ : zk_Cr zk_mt zk_ex Ls xs 117 [.ref 69, .int x] (zH (zb v 68 (upd (upd (v 68) 0 0) 11 0)) w t) (some (.int (zr_misX (v 68 14) (v 71 3) x)), zH (zb v 68 (upd (upd (v 68) 0 0) 11 0)) w t) := zs_misGood (v := (zb v 68 (upd (upd (v 68) 0 0) 11 0))) (w := w) x; rw [show (zr_misX (v 68 14) (v 71 3) x) = 0 from hg] at ee_; exact ee_) ?_
  show zk_T zk_mt zk_ex Ls xs zm_248 (10, [(0, .ref 69), (1, .int x), (2, .int y), (3, .int n)], [.int 0, .ref 69]) (zH (zb v 68 (upd (upd (v 68) 0 0) 11 0)) w t) _
  refine zk_T.br (f1 := (25, [(0, .ref 69), (1, .int x), (2, .int y), (3, .int n)], [.ref 69])) (f2 := (13, [(0, .ref 69), (1, .int x), (2, .int y), (3, .int n)], [.ref 69])) rfl (fun c1 => ?_) (fun c1 => absurd (by decide) (of_decide_eq_false c1))
  refine zk_T.adv 2 (f' := (27, [(0, .ref 69), (1, .int x), (2, .int y), (3, .int n)], [.int n, .int 0, .ref 69])) (h' := zH (zb v 68 (upd (upd (v 68) 0 0) 11 0)) w t) rfl ?_
  refine zk_T.cl (v := some (.int 1)) (h' := zH (zb v 68 (upd (upd (v 68) 0 0) 11 0)) w t) rfl (zs_maheadWhy (v := (zb v 68 (upd (upd (v 68) 0 0) 11 0))) (w := w) 0 n) ?_
  show zk_T zk_mt zk_ex Ls xs zm_248 (30, [(0, .ref 69), (1, .int x), (2, .int y), (3, .int n)], [.int 1]) (zH (zb v 68 (upd (upd (v 68) 0 0) 11 0)) w t) _
  refine zk_T.adv 2 (f' := (34, [(0, .ref 69), (1, .int x), (2, .int y), (3, .int n), (4, .int 1)], [.int 1])) (h' := zH (zb v 68 (upd (upd (v 68) 0 0) 11 0)) w t) rfl ?_
  refine zk_T.br (f1 := (37, [(0, .ref 69), (1, .int x), (2, .int y), (3, .int n), (4, .int 1)], [])) (f2 := (63, [(0, .ref 69), (1, .int x), (2, .int y), (3, .int n), (4, .int 1)], [])) rfl (fun c2 => absurd (of_decide_eq_true c2) (by decide)) (fun c2 => ?_)
  refine zk_T.adv 1 (f' := (65, [(0, .ref 69), (1, .int x), (2, .int y), (3, .int n), (4, .int 1)], [.int 1])) (h' := zH (zb v 68 (upd (upd (v 68) 0 0) 11 0)) w t) rfl ?_
  refine zk_T.br (f1 := (75, [(0, .ref 69), (1, .int x), (2, .int y), (3, .int n), (4, .int 1)], [])) (f2 := (68, [(0, .ref 69), (1, .int x), (2, .int y), (3, .int n), (4, .int 1)], [])) rfl (fun c3 => absurd (of_decide_eq_true c3) (by decide)) (fun c3 => ?_)
  refine zk_T.adv 2 (f' := (71, [(0, .ref 69), (1, .int x), (2, .int y), (3, .int n), (4, .int 1)], [.int 1, .ref 69])) (h' := zH (zb v 68 (upd (upd (v 68) 0 0) 11 0)) w t) rfl ?_
  refine zk_T.cl (v := some (.int (-1))) (h' := zH (zb v 68 (upd (upd (v 68) 0 0) 11 1)) w t) rfl (zs_mno (v := (zb v 68 (upd (upd (v 68) 0 0) 11 0))) (w := w) 1) ?_
  show zk_T zk_mt zk_ex Ls xs zm_248 (74, [(0, .ref 69), (1, .int x), (2, .int y), (3, .int n), (4, .int 1)], [.int (-1)]) (zH (zb v 68 (upd (upd (v 68) 0 0) 11 1)) w t) _
  exact zk_T.rt rfl rfl (by rfl)
/-- BasketKeepModel.worthIf -/
theorem zM_worthIf_m (x y n : Int32) (hg : zr_misX (v 68 14) (v 71 3) x = 1) (hg2 : zr_misX (v 68 14) (v 71 2) y = 0) : zk_Cr zk_mt zk_ex Ls xs 248 [.ref 69, .int x, .int y, .int n] (zH v w t) (some (.int (-1)), zH (zb v 68 (upd (upd (v 68) 0 0) 11 1)) w t) := by
  refine zk_Cr.of (K := zm_248) rfl rfl rfl ?_
  show zk_T zk_mt zk_ex Ls xs zm_248 (0, [(0, .ref 69), (1, .int x), (2, .int y), (3, .int n)], []) (zH v w t) _
  refine zk_T.adv 1 (f' := (1, [(0, .ref 69), (1, .int x), (2, .int y), (3, .int n)], [.ref 69])) (h' := zH v w t) rfl ?_
  refine zk_T.cl (v := none) (h' := zH (zb v 68 (upd (upd (v 68) 0 0) 11 0)) w t) rfl (zs_manew (v := v) (w := w)) ?_
  show zk_T zk_mt zk_ex Ls xs zm_248 (4, [(0, .ref 69), (1, .int x), (2, .int y), (3, .int n)], []) (zH (zb v 68 (upd (upd (v 68) 0 0) 11 0)) w t) _
  refine zk_T.adv 3 (f' := (7, [(0, .ref 69), (1, .int x), (2, .int y), (3, .int n)], [.int x, .ref 69, .ref 69])) (h' := zH (zb v 68 (upd (upd (v 68) 0 0) 11 0)) w t) rfl ?_
  refine zk_T.cl (v := some (.int 1)) (h' := zH (zb v 68 (upd (upd (v 68) 0 0) 11 0)) w t) rfl (by have ee_ : zk_Cr zk_mt zk_ex Ls xs 117 [.ref 69, .int x] (zH (zb v 68 (upd (upd (v 68) 0 0) 11 0)) w t) (some (.int (zr_misX (v 68 14) (v 71 3) x)), zH (zb v 68 (upd (upd (v 68) 0 0) 11 0)) w t) := zs_misGood (v := (zb v 68 (upd (upd (v 68) 0 0) 11 0))) (w := w) x; rw [show (zr_misX (v 68 14) (v 71 3) x) = 1 from hg] at ee_; exact ee_) ?_
  show zk_T zk_mt zk_ex Ls xs zm_248 (10, [(0, .ref 69), (1, .int x), (2, .int y), (3, .int n)], [.int 1, .ref 69]) (zH (zb v 68 (upd (upd (v 68) 0 0) 11 0)) w t) _
  refine zk_T.br (f1 := (25, [(0, .ref 69), (1, .int x), (2, .int y), (3, .int n)], [.ref 69])) (f2 := (13, [(0, .ref 69), (1, .int x), (2, .int y), (3, .int n)], [.ref 69])) rfl (fun c1 => absurd (of_decide_eq_true c1) (by decide)) (fun c1 => ?_)
  refine zk_T.adv 2 (f' := (15, [(0, .ref 69), (1, .int x), (2, .int y), (3, .int n)], [.int y, .ref 69, .ref 69])) (h' := zH (zb v 68 (upd (upd (v 68) 0 0) 11 0)) w t) rfl ?_
  refine zk_T.cl (v := some (.int 0)) (h' := zH (zb v 68 (upd (upd (v 68) 0 0) 11 0)) w t) rfl (by have ee_ : zk_Cr zk_mt zk_ex Ls xs 118 [.ref 69, .int y] (zH (zb v 68 (upd (upd (v 68) 0 0) 11 0)) w t) (some (.int (zr_misX (v 68 14) (v 71 2) y)), zH (zb v 68 (upd (upd (v 68) 0 0) 11 0)) w t) := zs_misMaker (v := (zb v 68 (upd (upd (v 68) 0 0) 11 0))) (w := w) y; rw [show (zr_misX (v 68 14) (v 71 2) y) = 0 from hg2] at ee_; exact ee_) ?_
  show zk_T zk_mt zk_ex Ls xs zm_248 (18, [(0, .ref 69), (1, .int x), (2, .int y), (3, .int n)], [.int 0, .ref 69]) (zH (zb v 68 (upd (upd (v 68) 0 0) 11 0)) w t) _
  refine zk_T.br (f1 := (25, [(0, .ref 69), (1, .int x), (2, .int y), (3, .int n)], [.ref 69])) (f2 := (21, [(0, .ref 69), (1, .int x), (2, .int y), (3, .int n)], [.ref 69])) rfl (fun c2 => ?_) (fun c2 => absurd (by decide) (of_decide_eq_false c2))
  refine zk_T.adv 2 (f' := (27, [(0, .ref 69), (1, .int x), (2, .int y), (3, .int n)], [.int n, .int 0, .ref 69])) (h' := zH (zb v 68 (upd (upd (v 68) 0 0) 11 0)) w t) rfl ?_
  refine zk_T.cl (v := some (.int 1)) (h' := zH (zb v 68 (upd (upd (v 68) 0 0) 11 0)) w t) rfl (zs_maheadWhy (v := (zb v 68 (upd (upd (v 68) 0 0) 11 0))) (w := w) 0 n) ?_
  show zk_T zk_mt zk_ex Ls xs zm_248 (30, [(0, .ref 69), (1, .int x), (2, .int y), (3, .int n)], [.int 1]) (zH (zb v 68 (upd (upd (v 68) 0 0) 11 0)) w t) _
  refine zk_T.adv 2 (f' := (34, [(0, .ref 69), (1, .int x), (2, .int y), (3, .int n), (4, .int 1)], [.int 1])) (h' := zH (zb v 68 (upd (upd (v 68) 0 0) 11 0)) w t) rfl ?_
  refine zk_T.br (f1 := (37, [(0, .ref 69), (1, .int x), (2, .int y), (3, .int n), (4, .int 1)], [])) (f2 := (63, [(0, .ref 69), (1, .int x), (2, .int y), (3, .int n), (4, .int 1)], [])) rfl (fun c3 => absurd (of_decide_eq_true c3) (by decide)) (fun c3 => ?_)
  refine zk_T.adv 1 (f' := (65, [(0, .ref 69), (1, .int x), (2, .int y), (3, .int n), (4, .int 1)], [.int 1])) (h' := zH (zb v 68 (upd (upd (v 68) 0 0) 11 0)) w t) rfl ?_
  refine zk_T.br (f1 := (75, [(0, .ref 69), (1, .int x), (2, .int y), (3, .int n), (4, .int 1)], [])) (f2 := (68, [(0, .ref 69), (1, .int x), (2, .int y), (3, .int n), (4, .int 1)], [])) rfl (fun c4 => absurd (of_decide_eq_true c4) (by decide)) (fun c4 => ?_)
  refine zk_T.adv 2 (f' := (71, [(0, .ref 69), (1, .int x), (2, .int y), (3, .int n), (4, .int 1)], [.int 1, .ref 69])) (h' := zH (zb v 68 (upd (upd (v 68) 0 0) 11 0)) w t) rfl ?_
  refine zk_T.cl (v := some (.int (-1))) (h' := zH (zb v 68 (upd (upd (v 68) 0 0) 11 1)) w t) rfl (zs_mno (v := (zb v 68 (upd (upd (v 68) 0 0) 11 0))) (w := w) 1) ?_
  show zk_T zk_mt zk_ex Ls xs zm_248 (74, [(0, .ref 69), (1, .int x), (2, .int y), (3, .int n), (4, .int 1)], [.int (-1)]) (zH (zb v 68 (upd (upd (v 68) 0 0) 11 1)) w t) _
  exact zk_T.rt rfl rfl (by rfl)
/-- BasketKeepModel.worthIf -/
theorem zM_worthIf_o (z y x : Int32) (hg : zr_misX (v 68 14) (v 71 3) z = 1) (hg2 : zr_misX (v 68 14) (v 71 2) y = 1) (hw : zr_maheadWhy 1 x = 2) : zk_Cr zk_mt zk_ex Ls xs 248 [.ref 69, .int z, .int y, .int x] (zH v w t) (some (.int (-1)), zH (zb v 68 (upd (upd (v 68) 0 0) 11 2)) w t) := by
  refine zk_Cr.of (K := zm_248) rfl rfl rfl ?_
  show zk_T zk_mt zk_ex Ls xs zm_248 (0, [(0, .ref 69), (1, .int z), (2, .int y), (3, .int x)], []) (zH v w t) _
  refine zk_T.adv 1 (f' := (1, [(0, .ref 69), (1, .int z), (2, .int y), (3, .int x)], [.ref 69])) (h' := zH v w t) rfl ?_
  refine zk_T.cl (v := none) (h' := zH (zb v 68 (upd (upd (v 68) 0 0) 11 0)) w t) rfl (zs_manew (v := v) (w := w)) ?_
  show zk_T zk_mt zk_ex Ls xs zm_248 (4, [(0, .ref 69), (1, .int z), (2, .int y), (3, .int x)], []) (zH (zb v 68 (upd (upd (v 68) 0 0) 11 0)) w t) _
  refine zk_T.adv 3 (f' := (7, [(0, .ref 69), (1, .int z), (2, .int y), (3, .int x)], [.int z, .ref 69, .ref 69])) (h' := zH (zb v 68 (upd (upd (v 68) 0 0) 11 0)) w t) rfl ?_
  refine zk_T.cl (v := some (.int 1)) (h' := zH (zb v 68 (upd (upd (v 68) 0 0) 11 0)) w t) rfl (by have ee_ : zk_Cr zk_mt zk_ex Ls xs 117 [.ref 69, .int z] (zH (zb v 68 (upd (upd (v 68) 0 0) 11 0)) w t) (some (.int (zr_misX (v 68 14) (v 71 3) z)), zH (zb v 68 (upd (upd (v 68) 0 0) 11 0)) w t) := zs_misGood (v := (zb v 68 (upd (upd (v 68) 0 0) 11 0))) (w := w) z; rw [show (zr_misX (v 68 14) (v 71 3) z) = 1 from hg] at ee_; exact ee_) ?_
  show zk_T zk_mt zk_ex Ls xs zm_248 (10, [(0, .ref 69), (1, .int z), (2, .int y), (3, .int x)], [.int 1, .ref 69]) (zH (zb v 68 (upd (upd (v 68) 0 0) 11 0)) w t) _
  refine zk_T.br (f1 := (25, [(0, .ref 69), (1, .int z), (2, .int y), (3, .int x)], [.ref 69])) (f2 := (13, [(0, .ref 69), (1, .int z), (2, .int y), (3, .int x)], [.ref 69])) rfl (fun c1 => absurd (of_decide_eq_true c1) (by decide)) (fun c1 => ?_)
  refine zk_T.adv 2 (f' := (15, [(0, .ref 69), (1, .int z), (2, .int y), (3, .int x)], [.int y, .ref 69, .ref 69])) (h' := zH (zb v 68 (upd (upd (v 68) 0 0) 11 0)) w t) rfl ?_
  refine zk_T.cl (v := some (.int 1)) (h' := zH (zb v 68 (upd (upd (v 68) 0 0) 11 0)) w t) rfl (by have ee_ : zk_Cr zk_mt zk_ex Ls xs 118 [.ref 69, .int y] (zH (zb v 68 (upd (upd (v 68) 0 0) 11 0)) w t) (some (.int (zr_misX (v 68 14) (v 71 2) y)), zH (zb v 68 (upd (upd (v 68) 0 0) 11 0)) w t) := zs_misMaker (v := (zb v 68 (upd (upd (v 68) 0 0) 11 0))) (w := w) y; rw [show (zr_misX (v 68 14) (v 71 2) y) = 1 from hg2] at ee_; exact ee_) ?_
  show zk_T zk_mt zk_ex Ls xs zm_248 (18, [(0, .ref 69), (1, .int z), (2, .int y), (3, .int x)], [.int 1, .ref 69]) (zH (zb v 68 (upd (upd (v 68) 0 0) 11 0)) w t) _
  refine zk_T.br (f1 := (25, [(0, .ref 69), (1, .int z), (2, .int y), (3, .int x)], [.ref 69])) (f2 := (21, [(0, .ref 69), (1, .int z), (2, .int y), (3, .int x)], [.ref 69])) rfl (fun c2 => absurd (of_decide_eq_true c2) (by decide)) (fun c2 => ?_)
  refine zk_T.adv 3 (f' := (27, [(0, .ref 69), (1, .int z), (2, .int y), (3, .int x)], [.int x, .int 1, .ref 69])) (h' := zH (zb v 68 (upd (upd (v 68) 0 0) 11 0)) w t) rfl ?_
  refine zk_T.cl (v := some (.int 2)) (h' := zH (zb v 68 (upd (upd (v 68) 0 0) 11 0)) w t) rfl (by have ee_ : zk_Cr zk_mt zk_ex Ls xs 108 [.ref 69, .int 1, .int x] (zH (zb v 68 (upd (upd (v 68) 0 0) 11 0)) w t) (some (.int (zr_maheadWhy 1 x)), zH (zb v 68 (upd (upd (v 68) 0 0) 11 0)) w t) := zs_maheadWhy (v := (zb v 68 (upd (upd (v 68) 0 0) 11 0))) (w := w) 1 x; rw [show (zr_maheadWhy 1 x) = 2 from hw] at ee_; exact ee_) ?_
  show zk_T zk_mt zk_ex Ls xs zm_248 (30, [(0, .ref 69), (1, .int z), (2, .int y), (3, .int x)], [.int 2]) (zH (zb v 68 (upd (upd (v 68) 0 0) 11 0)) w t) _
  refine zk_T.adv 2 (f' := (34, [(0, .ref 69), (1, .int z), (2, .int y), (3, .int x), (4, .int 2)], [.int 2])) (h' := zH (zb v 68 (upd (upd (v 68) 0 0) 11 0)) w t) rfl ?_
  refine zk_T.br (f1 := (37, [(0, .ref 69), (1, .int z), (2, .int y), (3, .int x), (4, .int 2)], [])) (f2 := (63, [(0, .ref 69), (1, .int z), (2, .int y), (3, .int x), (4, .int 2)], [])) rfl (fun c3 => absurd (of_decide_eq_true c3) (by decide)) (fun c3 => ?_)
  refine zk_T.adv 1 (f' := (65, [(0, .ref 69), (1, .int z), (2, .int y), (3, .int x), (4, .int 2)], [.int 2])) (h' := zH (zb v 68 (upd (upd (v 68) 0 0) 11 0)) w t) rfl ?_
  refine zk_T.br (f1 := (75, [(0, .ref 69), (1, .int z), (2, .int y), (3, .int x), (4, .int 2)], [])) (f2 := (68, [(0, .ref 69), (1, .int z), (2, .int y), (3, .int x), (4, .int 2)], [])) rfl (fun c4 => absurd (of_decide_eq_true c4) (by decide)) (fun c4 => ?_)
  refine zk_T.adv 2 (f' := (71, [(0, .ref 69), (1, .int z), (2, .int y), (3, .int x), (4, .int 2)], [.int 2, .ref 69])) (h' := zH (zb v 68 (upd (upd (v 68) 0 0) 11 0)) w t) rfl ?_
  refine zk_T.cl (v := some (.int (-1))) (h' := zH (zb v 68 (upd (upd (v 68) 0 0) 11 2)) w t) rfl (zs_mno (v := (zb v 68 (upd (upd (v 68) 0 0) 11 0))) (w := w) 2) ?_
  show zk_T zk_mt zk_ex Ls xs zm_248 (74, [(0, .ref 69), (1, .int z), (2, .int y), (3, .int x), (4, .int 2)], [.int (-1)]) (zH (zb v 68 (upd (upd (v 68) 0 0) 11 2)) w t) _
  exact zk_T.rt rfl rfl (by rfl)
/-- BasketKeepModel.worthIf -/
theorem zM_worthIf_5a (a e : Nat) (ha : a < 4) (he : e < 5) (hg : zr_misX (v 68 14) (v 71 3) (nI a) = 1) (hg2 : zr_misX (v 68 14) (v 71 2) (nI e) = 1) (n : Nat) (hn : n ≤ 60) (hlo : zr_mhasBit (v 75 14) (nI a) = 1) : zk_Cr zk_mt zk_ex Ls xs 248 [.ref 69, .int (nI a), .int (nI e), .int (nI n)] (zH v w t) (some (.int (-1)), zH (zb v 68 (upd (upd (v 68) 0 0) 11 5)) w t) := by
  refine zk_Cr.of (K := zm_248) rfl rfl rfl ?_
  show zk_T zk_mt zk_ex Ls xs zm_248 (0, [(0, .ref 69), (1, .int (nI a)), (2, .int (nI e)), (3, .int (nI n))], []) (zH v w t) _
  refine zk_T.adv 1 (f' := (1, [(0, .ref 69), (1, .int (nI a)), (2, .int (nI e)), (3, .int (nI n))], [.ref 69])) (h' := zH v w t) rfl ?_
  refine zk_T.cl (v := none) (h' := zH (zb v 68 (upd (upd (v 68) 0 0) 11 0)) w t) rfl (zs_manew (v := v) (w := w)) ?_
  show zk_T zk_mt zk_ex Ls xs zm_248 (4, [(0, .ref 69), (1, .int (nI a)), (2, .int (nI e)), (3, .int (nI n))], []) (zH (zb v 68 (upd (upd (v 68) 0 0) 11 0)) w t) _
  refine zk_T.adv 3 (f' := (7, [(0, .ref 69), (1, .int (nI a)), (2, .int (nI e)), (3, .int (nI n))], [.int (nI a), .ref 69, .ref 69])) (h' := zH (zb v 68 (upd (upd (v 68) 0 0) 11 0)) w t) rfl ?_
  refine zk_T.cl (v := some (.int 1)) (h' := zH (zb v 68 (upd (upd (v 68) 0 0) 11 0)) w t) rfl (by have ee_ : zk_Cr zk_mt zk_ex Ls xs 117 [.ref 69, .int (nI a)] (zH (zb v 68 (upd (upd (v 68) 0 0) 11 0)) w t) (some (.int (zr_misX (v 68 14) (v 71 3) (nI a))), zH (zb v 68 (upd (upd (v 68) 0 0) 11 0)) w t) := zs_misGood (v := (zb v 68 (upd (upd (v 68) 0 0) 11 0))) (w := w) (nI a); rw [show (zr_misX (v 68 14) (v 71 3) (nI a)) = 1 from hg] at ee_; exact ee_) ?_
  show zk_T zk_mt zk_ex Ls xs zm_248 (10, [(0, .ref 69), (1, .int (nI a)), (2, .int (nI e)), (3, .int (nI n))], [.int 1, .ref 69]) (zH (zb v 68 (upd (upd (v 68) 0 0) 11 0)) w t) _
  refine zk_T.br (f1 := (25, [(0, .ref 69), (1, .int (nI a)), (2, .int (nI e)), (3, .int (nI n))], [.ref 69])) (f2 := (13, [(0, .ref 69), (1, .int (nI a)), (2, .int (nI e)), (3, .int (nI n))], [.ref 69])) rfl (fun c1 => absurd (of_decide_eq_true c1) (by decide)) (fun c1 => ?_)
  refine zk_T.adv 2 (f' := (15, [(0, .ref 69), (1, .int (nI a)), (2, .int (nI e)), (3, .int (nI n))], [.int (nI e), .ref 69, .ref 69])) (h' := zH (zb v 68 (upd (upd (v 68) 0 0) 11 0)) w t) rfl ?_
  refine zk_T.cl (v := some (.int 1)) (h' := zH (zb v 68 (upd (upd (v 68) 0 0) 11 0)) w t) rfl (by have ee_ : zk_Cr zk_mt zk_ex Ls xs 118 [.ref 69, .int (nI e)] (zH (zb v 68 (upd (upd (v 68) 0 0) 11 0)) w t) (some (.int (zr_misX (v 68 14) (v 71 2) (nI e))), zH (zb v 68 (upd (upd (v 68) 0 0) 11 0)) w t) := zs_misMaker (v := (zb v 68 (upd (upd (v 68) 0 0) 11 0))) (w := w) (nI e); rw [show (zr_misX (v 68 14) (v 71 2) (nI e)) = 1 from hg2] at ee_; exact ee_) ?_
  show zk_T zk_mt zk_ex Ls xs zm_248 (18, [(0, .ref 69), (1, .int (nI a)), (2, .int (nI e)), (3, .int (nI n))], [.int 1, .ref 69]) (zH (zb v 68 (upd (upd (v 68) 0 0) 11 0)) w t) _
  refine zk_T.br (f1 := (25, [(0, .ref 69), (1, .int (nI a)), (2, .int (nI e)), (3, .int (nI n))], [.ref 69])) (f2 := (21, [(0, .ref 69), (1, .int (nI a)), (2, .int (nI e)), (3, .int (nI n))], [.ref 69])) rfl (fun c2 => absurd (of_decide_eq_true c2) (by decide)) (fun c2 => ?_)
  refine zk_T.adv 3 (f' := (27, [(0, .ref 69), (1, .int (nI a)), (2, .int (nI e)), (3, .int (nI n))], [.int (nI n), .int 1, .ref 69])) (h' := zH (zb v 68 (upd (upd (v 68) 0 0) 11 0)) w t) rfl ?_
  refine zk_T.cl (v := some (.int 0)) (h' := zH (zb v 68 (upd (upd (v 68) 0 0) 11 0)) w t) rfl (by have ee_ : zk_Cr zk_mt zk_ex Ls xs 108 [.ref 69, .int 1, .int (nI n)] (zH (zb v 68 (upd (upd (v 68) 0 0) 11 0)) w t) (some (.int (zr_maheadWhy 1 (nI n))), zH (zb v 68 (upd (upd (v 68) 0 0) 11 0)) w t) := zs_maheadWhy (v := (zb v 68 (upd (upd (v 68) 0 0) 11 0))) (w := w) 1 (nI n); rw [show (zr_maheadWhy 1 (nI n)) = 0 from (zk_ah1 n hn)] at ee_; exact ee_) ?_
  show zk_T zk_mt zk_ex Ls xs zm_248 (30, [(0, .ref 69), (1, .int (nI a)), (2, .int (nI e)), (3, .int (nI n))], [.int 0]) (zH (zb v 68 (upd (upd (v 68) 0 0) 11 0)) w t) _
  refine zk_T.adv 2 (f' := (34, [(0, .ref 69), (1, .int (nI a)), (2, .int (nI e)), (3, .int (nI n)), (4, .int 0)], [.int 0])) (h' := zH (zb v 68 (upd (upd (v 68) 0 0) 11 0)) w t) rfl ?_
  refine zk_T.br (f1 := (37, [(0, .ref 69), (1, .int (nI a)), (2, .int (nI e)), (3, .int (nI n)), (4, .int 0)], [])) (f2 := (63, [(0, .ref 69), (1, .int (nI a)), (2, .int (nI e)), (3, .int (nI n)), (4, .int 0)], [])) rfl (fun c3 => ?_) (fun c3 => absurd (by decide) (of_decide_eq_false c3))
  refine zk_T.adv 3 (f' := (43, [(0, .ref 69), (1, .int (nI a)), (2, .int (nI e)), (3, .int (nI n)), (4, .int 0)], [.int 14, .ref 76])) (h' := zH (zb v 68 (upd (upd (v 68) 0 0) 11 0)) w t) rfl ?_
  refine zk_T.ob (f' := (44, [(0, .ref 69), (1, .int (nI a)), (2, .int (nI e)), (3, .int (nI n)), (4, .int 0)], [.int (v 75 (14 : Int32).toNatClampNeg)])) (h' := zH (zb v 68 (upd (upd (v 68) 0 0) 11 0)) w t) rfl rfl ?_
  show zk_T zk_mt zk_ex Ls xs zm_248 (44, [(0, .ref 69), (1, .int (nI a)), (2, .int (nI e)), (3, .int (nI n)), (4, .int 0)], [.int (v 75 14)]) (zH (zb v 68 (upd (upd (v 68) 0 0) 11 0)) w t) _
  refine zk_T.adv 1 (f' := (45, [(0, .ref 69), (1, .int (nI a)), (2, .int (nI e)), (3, .int (nI n)), (4, .int 0)], [.int (nI a), .int (v 75 14)])) (h' := zH (zb v 68 (upd (upd (v 68) 0 0) 11 0)) w t) rfl ?_
  refine zk_T.cl (v := some (.int 1)) (h' := zH (zb v 68 (upd (upd (v 68) 0 0) 11 0)) w t) rfl (by have ee_ : zk_Cr zk_mt zk_ex Ls xs 49 [.int (v 75 14), .int (nI a)] (zH (zb v 68 (upd (upd (v 68) 0 0) 11 0)) w t) (some (.int (zr_mhasBit (v 75 14) (nI a))), zH (zb v 68 (upd (upd (v 68) 0 0) 11 0)) w t) := zs_mhasBit (v := (zb v 68 (upd (upd (v 68) 0 0) 11 0))) (w := w) (v 75 14) (nI a); rw [show (zr_mhasBit (v 75 14) (nI a)) = 1 from hlo] at ee_; exact ee_) ?_
  show zk_T zk_mt zk_ex Ls xs zm_248 (48, [(0, .ref 69), (1, .int (nI a)), (2, .int (nI e)), (3, .int (nI n)), (4, .int 0)], [.int 1]) (zH (zb v 68 (upd (upd (v 68) 0 0) 11 0)) w t) _
  refine zk_T.br (f1 := (51, [(0, .ref 69), (1, .int (nI a)), (2, .int (nI e)), (3, .int (nI n)), (4, .int 0)], [])) (f2 := (60, [(0, .ref 69), (1, .int (nI a)), (2, .int (nI e)), (3, .int (nI n)), (4, .int 0)], [])) rfl (fun c4 => absurd (of_decide_eq_true c4) (by decide)) (fun c4 => ?_)
  refine zk_T.adv 3 (f' := (65, [(0, .ref 69), (1, .int (nI a)), (2, .int (nI e)), (3, .int (nI n)), (4, .int 5)], [.int 5])) (h' := zH (zb v 68 (upd (upd (v 68) 0 0) 11 0)) w t) rfl ?_
  refine zk_T.br (f1 := (75, [(0, .ref 69), (1, .int (nI a)), (2, .int (nI e)), (3, .int (nI n)), (4, .int 5)], [])) (f2 := (68, [(0, .ref 69), (1, .int (nI a)), (2, .int (nI e)), (3, .int (nI n)), (4, .int 5)], [])) rfl (fun c5 => absurd (of_decide_eq_true c5) (by decide)) (fun c5 => ?_)
  refine zk_T.adv 2 (f' := (71, [(0, .ref 69), (1, .int (nI a)), (2, .int (nI e)), (3, .int (nI n)), (4, .int 5)], [.int 5, .ref 69])) (h' := zH (zb v 68 (upd (upd (v 68) 0 0) 11 0)) w t) rfl ?_
  refine zk_T.cl (v := some (.int (-1))) (h' := zH (zb v 68 (upd (upd (v 68) 0 0) 11 5)) w t) rfl (zs_mno (v := (zb v 68 (upd (upd (v 68) 0 0) 11 0))) (w := w) 5) ?_
  show zk_T zk_mt zk_ex Ls xs zm_248 (74, [(0, .ref 69), (1, .int (nI a)), (2, .int (nI e)), (3, .int (nI n)), (4, .int 5)], [.int (-1)]) (zH (zb v 68 (upd (upd (v 68) 0 0) 11 5)) w t) _
  exact zk_T.rt rfl rfl (by rfl)
/-- BasketKeepModel.worthIf -/
theorem zM_worthIf_5b (a e : Nat) (ha : a < 4) (he : e < 5) (hg : zr_misX (v 68 14) (v 71 3) (nI a) = 1) (hg2 : zr_misX (v 68 14) (v 71 2) (nI e) = 1) (n : Nat) (hn : n ≤ 60) (Gn : Nat) (hG : v 71 3 = nI Gn) (h4 : Gn ≤ 4) (hlo : zr_mhasBit (v 75 14) (nI a) = 0) (htk : zr_misTaken Gn (v 75) (nI e) (nI a) = 1) : zk_Cr zk_mt zk_ex Ls xs 248 [.ref 69, .int (nI a), .int (nI e), .int (nI n)] (zH v w t) (some (.int (-1)), zH (zb v 68 (upd (upd (v 68) 0 0) 11 5)) w t) := by
  refine zk_Cr.of (K := zm_248) rfl rfl rfl ?_
  show zk_T zk_mt zk_ex Ls xs zm_248 (0, [(0, .ref 69), (1, .int (nI a)), (2, .int (nI e)), (3, .int (nI n))], []) (zH v w t) _
  refine zk_T.adv 1 (f' := (1, [(0, .ref 69), (1, .int (nI a)), (2, .int (nI e)), (3, .int (nI n))], [.ref 69])) (h' := zH v w t) rfl ?_
  refine zk_T.cl (v := none) (h' := zH (zb v 68 (upd (upd (v 68) 0 0) 11 0)) w t) rfl (zs_manew (v := v) (w := w)) ?_
  show zk_T zk_mt zk_ex Ls xs zm_248 (4, [(0, .ref 69), (1, .int (nI a)), (2, .int (nI e)), (3, .int (nI n))], []) (zH (zb v 68 (upd (upd (v 68) 0 0) 11 0)) w t) _
  refine zk_T.adv 3 (f' := (7, [(0, .ref 69), (1, .int (nI a)), (2, .int (nI e)), (3, .int (nI n))], [.int (nI a), .ref 69, .ref 69])) (h' := zH (zb v 68 (upd (upd (v 68) 0 0) 11 0)) w t) rfl ?_
  refine zk_T.cl (v := some (.int 1)) (h' := zH (zb v 68 (upd (upd (v 68) 0 0) 11 0)) w t) rfl (by have ee_ : zk_Cr zk_mt zk_ex Ls xs 117 [.ref 69, .int (nI a)] (zH (zb v 68 (upd (upd (v 68) 0 0) 11 0)) w t) (some (.int (zr_misX (v 68 14) (v 71 3) (nI a))), zH (zb v 68 (upd (upd (v 68) 0 0) 11 0)) w t) := zs_misGood (v := (zb v 68 (upd (upd (v 68) 0 0) 11 0))) (w := w) (nI a); rw [show (zr_misX (v 68 14) (v 71 3) (nI a)) = 1 from hg] at ee_; exact ee_) ?_
  show zk_T zk_mt zk_ex Ls xs zm_248 (10, [(0, .ref 69), (1, .int (nI a)), (2, .int (nI e)), (3, .int (nI n))], [.int 1, .ref 69]) (zH (zb v 68 (upd (upd (v 68) 0 0) 11 0)) w t) _
  refine zk_T.br (f1 := (25, [(0, .ref 69), (1, .int (nI a)), (2, .int (nI e)), (3, .int (nI n))], [.ref 69])) (f2 := (13, [(0, .ref 69), (1, .int (nI a)), (2, .int (nI e)), (3, .int (nI n))], [.ref 69])) rfl (fun c1 => absurd (of_decide_eq_true c1) (by decide)) (fun c1 => ?_)
  refine zk_T.adv 2 (f' := (15, [(0, .ref 69), (1, .int (nI a)), (2, .int (nI e)), (3, .int (nI n))], [.int (nI e), .ref 69, .ref 69])) (h' := zH (zb v 68 (upd (upd (v 68) 0 0) 11 0)) w t) rfl ?_
  refine zk_T.cl (v := some (.int 1)) (h' := zH (zb v 68 (upd (upd (v 68) 0 0) 11 0)) w t) rfl (by have ee_ : zk_Cr zk_mt zk_ex Ls xs 118 [.ref 69, .int (nI e)] (zH (zb v 68 (upd (upd (v 68) 0 0) 11 0)) w t) (some (.int (zr_misX (v 68 14) (v 71 2) (nI e))), zH (zb v 68 (upd (upd (v 68) 0 0) 11 0)) w t) := zs_misMaker (v := (zb v 68 (upd (upd (v 68) 0 0) 11 0))) (w := w) (nI e); rw [show (zr_misX (v 68 14) (v 71 2) (nI e)) = 1 from hg2] at ee_; exact ee_) ?_
  show zk_T zk_mt zk_ex Ls xs zm_248 (18, [(0, .ref 69), (1, .int (nI a)), (2, .int (nI e)), (3, .int (nI n))], [.int 1, .ref 69]) (zH (zb v 68 (upd (upd (v 68) 0 0) 11 0)) w t) _
  refine zk_T.br (f1 := (25, [(0, .ref 69), (1, .int (nI a)), (2, .int (nI e)), (3, .int (nI n))], [.ref 69])) (f2 := (21, [(0, .ref 69), (1, .int (nI a)), (2, .int (nI e)), (3, .int (nI n))], [.ref 69])) rfl (fun c2 => absurd (of_decide_eq_true c2) (by decide)) (fun c2 => ?_)
  refine zk_T.adv 3 (f' := (27, [(0, .ref 69), (1, .int (nI a)), (2, .int (nI e)), (3, .int (nI n))], [.int (nI n), .int 1, .ref 69])) (h' := zH (zb v 68 (upd (upd (v 68) 0 0) 11 0)) w t) rfl ?_
  refine zk_T.cl (v := some (.int 0)) (h' := zH (zb v 68 (upd (upd (v 68) 0 0) 11 0)) w t) rfl (by have ee_ : zk_Cr zk_mt zk_ex Ls xs 108 [.ref 69, .int 1, .int (nI n)] (zH (zb v 68 (upd (upd (v 68) 0 0) 11 0)) w t) (some (.int (zr_maheadWhy 1 (nI n))), zH (zb v 68 (upd (upd (v 68) 0 0) 11 0)) w t) := zs_maheadWhy (v := (zb v 68 (upd (upd (v 68) 0 0) 11 0))) (w := w) 1 (nI n); rw [show (zr_maheadWhy 1 (nI n)) = 0 from (zk_ah1 n hn)] at ee_; exact ee_) ?_
  show zk_T zk_mt zk_ex Ls xs zm_248 (30, [(0, .ref 69), (1, .int (nI a)), (2, .int (nI e)), (3, .int (nI n))], [.int 0]) (zH (zb v 68 (upd (upd (v 68) 0 0) 11 0)) w t) _
  refine zk_T.adv 2 (f' := (34, [(0, .ref 69), (1, .int (nI a)), (2, .int (nI e)), (3, .int (nI n)), (4, .int 0)], [.int 0])) (h' := zH (zb v 68 (upd (upd (v 68) 0 0) 11 0)) w t) rfl ?_
  refine zk_T.br (f1 := (37, [(0, .ref 69), (1, .int (nI a)), (2, .int (nI e)), (3, .int (nI n)), (4, .int 0)], [])) (f2 := (63, [(0, .ref 69), (1, .int (nI a)), (2, .int (nI e)), (3, .int (nI n)), (4, .int 0)], [])) rfl (fun c3 => ?_) (fun c3 => absurd (by decide) (of_decide_eq_false c3))
  refine zk_T.adv 3 (f' := (43, [(0, .ref 69), (1, .int (nI a)), (2, .int (nI e)), (3, .int (nI n)), (4, .int 0)], [.int 14, .ref 76])) (h' := zH (zb v 68 (upd (upd (v 68) 0 0) 11 0)) w t) rfl ?_
  refine zk_T.ob (f' := (44, [(0, .ref 69), (1, .int (nI a)), (2, .int (nI e)), (3, .int (nI n)), (4, .int 0)], [.int (v 75 (14 : Int32).toNatClampNeg)])) (h' := zH (zb v 68 (upd (upd (v 68) 0 0) 11 0)) w t) rfl rfl ?_
  show zk_T zk_mt zk_ex Ls xs zm_248 (44, [(0, .ref 69), (1, .int (nI a)), (2, .int (nI e)), (3, .int (nI n)), (4, .int 0)], [.int (v 75 14)]) (zH (zb v 68 (upd (upd (v 68) 0 0) 11 0)) w t) _
  refine zk_T.adv 1 (f' := (45, [(0, .ref 69), (1, .int (nI a)), (2, .int (nI e)), (3, .int (nI n)), (4, .int 0)], [.int (nI a), .int (v 75 14)])) (h' := zH (zb v 68 (upd (upd (v 68) 0 0) 11 0)) w t) rfl ?_
  refine zk_T.cl (v := some (.int 0)) (h' := zH (zb v 68 (upd (upd (v 68) 0 0) 11 0)) w t) rfl (by have ee_ : zk_Cr zk_mt zk_ex Ls xs 49 [.int (v 75 14), .int (nI a)] (zH (zb v 68 (upd (upd (v 68) 0 0) 11 0)) w t) (some (.int (zr_mhasBit (v 75 14) (nI a))), zH (zb v 68 (upd (upd (v 68) 0 0) 11 0)) w t) := zs_mhasBit (v := (zb v 68 (upd (upd (v 68) 0 0) 11 0))) (w := w) (v 75 14) (nI a); rw [show (zr_mhasBit (v 75 14) (nI a)) = 0 from hlo] at ee_; exact ee_) ?_
  show zk_T zk_mt zk_ex Ls xs zm_248 (48, [(0, .ref 69), (1, .int (nI a)), (2, .int (nI e)), (3, .int (nI n)), (4, .int 0)], [.int 0]) (zH (zb v 68 (upd (upd (v 68) 0 0) 11 0)) w t) _
  refine zk_T.br (f1 := (51, [(0, .ref 69), (1, .int (nI a)), (2, .int (nI e)), (3, .int (nI n)), (4, .int 0)], [])) (f2 := (60, [(0, .ref 69), (1, .int (nI a)), (2, .int (nI e)), (3, .int (nI n)), (4, .int 0)], [])) rfl (fun c4 => ?_) (fun c4 => absurd (by decide) (of_decide_eq_false c4))
  refine zk_T.adv 3 (f' := (54, [(0, .ref 69), (1, .int (nI a)), (2, .int (nI e)), (3, .int (nI n)), (4, .int 0)], [.int (nI a), .int (nI e), .ref 69])) (h' := zH (zb v 68 (upd (upd (v 68) 0 0) 11 0)) w t) rfl ?_
  refine zk_T.cl (v := some (.int 1)) (h' := zH (zb v 68 (upd (upd (v 68) 0 0) 11 0)) w t) rfl (by have ee_ : zk_Cr zk_mt zk_ex Ls xs 120 [.ref 69, .int (nI e), .int (nI a)] (zH (zb v 68 (upd (upd (v 68) 0 0) 11 0)) w t) (some (.int (zr_misTaken Gn (v 75) (nI e) (nI a))), zH (zb v 68 (upd (upd (v 68) 0 0) 11 0)) w t) := zs_misTaken (v := (zb v 68 (upd (upd (v 68) 0 0) 11 0))) (w := w) Gn hG h4 (nI e) (nI a); rw [show (zr_misTaken Gn (v 75) (nI e) (nI a)) = 1 from htk] at ee_; exact ee_) ?_
  show zk_T zk_mt zk_ex Ls xs zm_248 (57, [(0, .ref 69), (1, .int (nI a)), (2, .int (nI e)), (3, .int (nI n)), (4, .int 0)], [.int 1]) (zH (zb v 68 (upd (upd (v 68) 0 0) 11 0)) w t) _
  refine zk_T.br (f1 := (63, [(0, .ref 69), (1, .int (nI a)), (2, .int (nI e)), (3, .int (nI n)), (4, .int 0)], [])) (f2 := (60, [(0, .ref 69), (1, .int (nI a)), (2, .int (nI e)), (3, .int (nI n)), (4, .int 0)], [])) rfl (fun c5 => absurd (of_decide_eq_true c5) (by decide)) (fun c5 => ?_)
  refine zk_T.adv 3 (f' := (65, [(0, .ref 69), (1, .int (nI a)), (2, .int (nI e)), (3, .int (nI n)), (4, .int 5)], [.int 5])) (h' := zH (zb v 68 (upd (upd (v 68) 0 0) 11 0)) w t) rfl ?_
  refine zk_T.br (f1 := (75, [(0, .ref 69), (1, .int (nI a)), (2, .int (nI e)), (3, .int (nI n)), (4, .int 5)], [])) (f2 := (68, [(0, .ref 69), (1, .int (nI a)), (2, .int (nI e)), (3, .int (nI n)), (4, .int 5)], [])) rfl (fun c6 => absurd (of_decide_eq_true c6) (by decide)) (fun c6 => ?_)
  refine zk_T.adv 2 (f' := (71, [(0, .ref 69), (1, .int (nI a)), (2, .int (nI e)), (3, .int (nI n)), (4, .int 5)], [.int 5, .ref 69])) (h' := zH (zb v 68 (upd (upd (v 68) 0 0) 11 0)) w t) rfl ?_
  refine zk_T.cl (v := some (.int (-1))) (h' := zH (zb v 68 (upd (upd (v 68) 0 0) 11 5)) w t) rfl (zs_mno (v := (zb v 68 (upd (upd (v 68) 0 0) 11 0))) (w := w) 5) ?_
  show zk_T zk_mt zk_ex Ls xs zm_248 (74, [(0, .ref 69), (1, .int (nI a)), (2, .int (nI e)), (3, .int (nI n)), (4, .int 5)], [.int (-1)]) (zH (zb v 68 (upd (upd (v 68) 0 0) 11 5)) w t) _
  exact zk_T.rt rfl rfl (by rfl)
theorem zk_lieP {Gn : Nat} {row : Nat → Int32} (h : zk_lie Gn row) {a e : Nat} (he : e < 5) : zk_lie Gn (upd row (10 + a) (nI (e + 1))) := by
  intro b hb
  by_cases hz : 10 + b = 10 + a
  · rw [hz, pk_us]
    exact Or.inr ⟨e, he, rfl⟩
  · rw [pk_un hz]
    exact h b hb
theorem zk_lieT {Gn : Nat} {row : Nat → Int32} (h : zk_lie Gn row) (h4 : Gn ≤ 4) {e : Nat} (he : e < 5) (x : Int32) : zk_lie Gn (upd row (5 + e) x) := zk_lieU h h4 (by omega) x
/-- BasketKeepModel.worthIf -/
theorem zM_worthIf_f (a e : Nat) (ha : a < 4) (he : e < 5) (hg : zr_misX (v 68 14) (v 71 3) (nI a) = 1) (hg2 : zr_misX (v 68 14) (v 71 2) (nI e) = 1) (n : Nat) (hn : n ≤ 60) (D : Nat) (hD : v 71 1 = nI D) (h8 : D ≤ 8) (Gn : Nat) (hG : v 71 3 = nI Gn) (h4 : Gn ≤ 4) (hev : ∀ d, d < D → ¬ v 71 (7 + 2 * d) = 0) (hli : zk_lie Gn (v 75)) (hlo : zr_mhasBit (v 75 14) (nI a) = 0) (htk : zr_misTaken Gn (v 75) (nI e) (nI a) = 0) : zk_Cr zk_mt zk_ex Ls xs 248 [.ref 69, .int (nI a), .int (nI e), .int (nI n)] (zH v w t) (some (.int (zr_mworth Gn (v 71) (zr_mgo n D Gn (v 71) (zr_mbegin (v 75) (v 76) (v 80) (v 81) (v 82) (v 79)).2.2.2.2.2 (upd (zr_mbegin (v 75) (v 76) (v 80) (v 81) (v 82) (v 79)).1 (10 + a) (nI (e + 1))) (zr_mbegin (v 75) (v 76) (v 80) (v 81) (v 82) (v 79)).2.1 (zr_mbegin (v 75) (v 76) (v 80) (v 81) (v 82) (v 79)).2.2.1 (zr_mbegin (v 75) (v 76) (v 80) (v 81) (v 82) (v 79)).2.2.2.1 (zr_mbegin (v 75) (v 76) (v 80) (v 81) (v 82) (v 79)).2.2.2.2.1).1)), zH (zb (zb (zb (zb (zb (zb v 68 (upd (upd (upd (v 68) 0 0) 11 0) 26 ((zr_mgo n D Gn (v 71) (zr_mbegin (v 75) (v 76) (v 80) (v 81) (v 82) (v 79)).2.2.2.2.2 (upd (zr_mbegin (v 75) (v 76) (v 80) (v 81) (v 82) (v 79)).1 (10 + a) (nI (e + 1))) (zr_mbegin (v 75) (v 76) (v 80) (v 81) (v 82) (v 79)).2.1 (zr_mbegin (v 75) (v 76) (v 80) (v 81) (v 82) (v 79)).2.2.1 (zr_mbegin (v 75) (v 76) (v 80) (v 81) (v 82) (v 79)).2.2.2.1 (zr_mbegin (v 75) (v 76) (v 80) (v 81) (v 82) (v 79)).2.2.2.2.1).2.1))) 76 (zr_mgo n D Gn (v 71) (zr_mbegin (v 75) (v 76) (v 80) (v 81) (v 82) (v 79)).2.2.2.2.2 (upd (zr_mbegin (v 75) (v 76) (v 80) (v 81) (v 82) (v 79)).1 (10 + a) (nI (e + 1))) (zr_mbegin (v 75) (v 76) (v 80) (v 81) (v 82) (v 79)).2.1 (zr_mbegin (v 75) (v 76) (v 80) (v 81) (v 82) (v 79)).2.2.1 (zr_mbegin (v 75) (v 76) (v 80) (v 81) (v 82) (v 79)).2.2.2.1 (zr_mbegin (v 75) (v 76) (v 80) (v 81) (v 82) (v 79)).2.2.2.2.1).1) 79 (zr_mbegin (v 75) (v 76) (v 80) (v 81) (v 82) (v 79)).2.2.2.2.2) 80 (zr_mgo n D Gn (v 71) (zr_mbegin (v 75) (v 76) (v 80) (v 81) (v 82) (v 79)).2.2.2.2.2 (upd (zr_mbegin (v 75) (v 76) (v 80) (v 81) (v 82) (v 79)).1 (10 + a) (nI (e + 1))) (zr_mbegin (v 75) (v 76) (v 80) (v 81) (v 82) (v 79)).2.1 (zr_mbegin (v 75) (v 76) (v 80) (v 81) (v 82) (v 79)).2.2.1 (zr_mbegin (v 75) (v 76) (v 80) (v 81) (v 82) (v 79)).2.2.2.1 (zr_mbegin (v 75) (v 76) (v 80) (v 81) (v 82) (v 79)).2.2.2.2.1).2.2.1) 81 (zr_mgo n D Gn (v 71) (zr_mbegin (v 75) (v 76) (v 80) (v 81) (v 82) (v 79)).2.2.2.2.2 (upd (zr_mbegin (v 75) (v 76) (v 80) (v 81) (v 82) (v 79)).1 (10 + a) (nI (e + 1))) (zr_mbegin (v 75) (v 76) (v 80) (v 81) (v 82) (v 79)).2.1 (zr_mbegin (v 75) (v 76) (v 80) (v 81) (v 82) (v 79)).2.2.1 (zr_mbegin (v 75) (v 76) (v 80) (v 81) (v 82) (v 79)).2.2.2.1 (zr_mbegin (v 75) (v 76) (v 80) (v 81) (v 82) (v 79)).2.2.2.2.1).2.2.2.1) 82 (zr_mgo n D Gn (v 71) (zr_mbegin (v 75) (v 76) (v 80) (v 81) (v 82) (v 79)).2.2.2.2.2 (upd (zr_mbegin (v 75) (v 76) (v 80) (v 81) (v 82) (v 79)).1 (10 + a) (nI (e + 1))) (zr_mbegin (v 75) (v 76) (v 80) (v 81) (v 82) (v 79)).2.1 (zr_mbegin (v 75) (v 76) (v 80) (v 81) (v 82) (v 79)).2.2.1 (zr_mbegin (v 75) (v 76) (v 80) (v 81) (v 82) (v 79)).2.2.2.1 (zr_mbegin (v 75) (v 76) (v 80) (v 81) (v 82) (v 79)).2.2.2.2.1).2.2.2.2) w t) := by
  refine zk_Cr.of (K := zm_248) rfl rfl rfl ?_
  show zk_T zk_mt zk_ex Ls xs zm_248 (0, [(0, .ref 69), (1, .int (nI a)), (2, .int (nI e)), (3, .int (nI n))], []) (zH v w t) _
  refine zk_T.adv 1 (f' := (1, [(0, .ref 69), (1, .int (nI a)), (2, .int (nI e)), (3, .int (nI n))], [.ref 69])) (h' := zH v w t) rfl ?_
  refine zk_T.cl (v := none) (h' := zH (zb v 68 (upd (upd (v 68) 0 0) 11 0)) w t) rfl (zs_manew (v := v) (w := w)) ?_
  show zk_T zk_mt zk_ex Ls xs zm_248 (4, [(0, .ref 69), (1, .int (nI a)), (2, .int (nI e)), (3, .int (nI n))], []) (zH (zb v 68 (upd (upd (v 68) 0 0) 11 0)) w t) _
  refine zk_T.adv 3 (f' := (7, [(0, .ref 69), (1, .int (nI a)), (2, .int (nI e)), (3, .int (nI n))], [.int (nI a), .ref 69, .ref 69])) (h' := zH (zb v 68 (upd (upd (v 68) 0 0) 11 0)) w t) rfl ?_
  refine zk_T.cl (v := some (.int 1)) (h' := zH (zb v 68 (upd (upd (v 68) 0 0) 11 0)) w t) rfl (by have ee_ : zk_Cr zk_mt zk_ex Ls xs 117 [.ref 69, .int (nI a)] (zH (zb v 68 (upd (upd (v 68) 0 0) 11 0)) w t) (some (.int (zr_misX (v 68 14) (v 71 3) (nI a))), zH (zb v 68 (upd (upd (v 68) 0 0) 11 0)) w t) := zs_misGood (v := (zb v 68 (upd (upd (v 68) 0 0) 11 0))) (w := w) (nI a); rw [show (zr_misX (v 68 14) (v 71 3) (nI a)) = 1 from hg] at ee_; exact ee_) ?_
  show zk_T zk_mt zk_ex Ls xs zm_248 (10, [(0, .ref 69), (1, .int (nI a)), (2, .int (nI e)), (3, .int (nI n))], [.int 1, .ref 69]) (zH (zb v 68 (upd (upd (v 68) 0 0) 11 0)) w t) _
  refine zk_T.br (f1 := (25, [(0, .ref 69), (1, .int (nI a)), (2, .int (nI e)), (3, .int (nI n))], [.ref 69])) (f2 := (13, [(0, .ref 69), (1, .int (nI a)), (2, .int (nI e)), (3, .int (nI n))], [.ref 69])) rfl (fun c1 => absurd (of_decide_eq_true c1) (by decide)) (fun c1 => ?_)
  refine zk_T.adv 2 (f' := (15, [(0, .ref 69), (1, .int (nI a)), (2, .int (nI e)), (3, .int (nI n))], [.int (nI e), .ref 69, .ref 69])) (h' := zH (zb v 68 (upd (upd (v 68) 0 0) 11 0)) w t) rfl ?_
  refine zk_T.cl (v := some (.int 1)) (h' := zH (zb v 68 (upd (upd (v 68) 0 0) 11 0)) w t) rfl (by have ee_ : zk_Cr zk_mt zk_ex Ls xs 118 [.ref 69, .int (nI e)] (zH (zb v 68 (upd (upd (v 68) 0 0) 11 0)) w t) (some (.int (zr_misX (v 68 14) (v 71 2) (nI e))), zH (zb v 68 (upd (upd (v 68) 0 0) 11 0)) w t) := zs_misMaker (v := (zb v 68 (upd (upd (v 68) 0 0) 11 0))) (w := w) (nI e); rw [show (zr_misX (v 68 14) (v 71 2) (nI e)) = 1 from hg2] at ee_; exact ee_) ?_
  show zk_T zk_mt zk_ex Ls xs zm_248 (18, [(0, .ref 69), (1, .int (nI a)), (2, .int (nI e)), (3, .int (nI n))], [.int 1, .ref 69]) (zH (zb v 68 (upd (upd (v 68) 0 0) 11 0)) w t) _
  refine zk_T.br (f1 := (25, [(0, .ref 69), (1, .int (nI a)), (2, .int (nI e)), (3, .int (nI n))], [.ref 69])) (f2 := (21, [(0, .ref 69), (1, .int (nI a)), (2, .int (nI e)), (3, .int (nI n))], [.ref 69])) rfl (fun c2 => absurd (of_decide_eq_true c2) (by decide)) (fun c2 => ?_)
  refine zk_T.adv 3 (f' := (27, [(0, .ref 69), (1, .int (nI a)), (2, .int (nI e)), (3, .int (nI n))], [.int (nI n), .int 1, .ref 69])) (h' := zH (zb v 68 (upd (upd (v 68) 0 0) 11 0)) w t) rfl ?_
  refine zk_T.cl (v := some (.int 0)) (h' := zH (zb v 68 (upd (upd (v 68) 0 0) 11 0)) w t) rfl (by have ee_ : zk_Cr zk_mt zk_ex Ls xs 108 [.ref 69, .int 1, .int (nI n)] (zH (zb v 68 (upd (upd (v 68) 0 0) 11 0)) w t) (some (.int (zr_maheadWhy 1 (nI n))), zH (zb v 68 (upd (upd (v 68) 0 0) 11 0)) w t) := zs_maheadWhy (v := (zb v 68 (upd (upd (v 68) 0 0) 11 0))) (w := w) 1 (nI n); rw [show (zr_maheadWhy 1 (nI n)) = 0 from (zk_ah1 n hn)] at ee_; exact ee_) ?_
  show zk_T zk_mt zk_ex Ls xs zm_248 (30, [(0, .ref 69), (1, .int (nI a)), (2, .int (nI e)), (3, .int (nI n))], [.int 0]) (zH (zb v 68 (upd (upd (v 68) 0 0) 11 0)) w t) _
  refine zk_T.adv 2 (f' := (34, [(0, .ref 69), (1, .int (nI a)), (2, .int (nI e)), (3, .int (nI n)), (4, .int 0)], [.int 0])) (h' := zH (zb v 68 (upd (upd (v 68) 0 0) 11 0)) w t) rfl ?_
  refine zk_T.br (f1 := (37, [(0, .ref 69), (1, .int (nI a)), (2, .int (nI e)), (3, .int (nI n)), (4, .int 0)], [])) (f2 := (63, [(0, .ref 69), (1, .int (nI a)), (2, .int (nI e)), (3, .int (nI n)), (4, .int 0)], [])) rfl (fun c3 => ?_) (fun c3 => absurd (by decide) (of_decide_eq_false c3))
  refine zk_T.adv 3 (f' := (43, [(0, .ref 69), (1, .int (nI a)), (2, .int (nI e)), (3, .int (nI n)), (4, .int 0)], [.int 14, .ref 76])) (h' := zH (zb v 68 (upd (upd (v 68) 0 0) 11 0)) w t) rfl ?_
  refine zk_T.ob (f' := (44, [(0, .ref 69), (1, .int (nI a)), (2, .int (nI e)), (3, .int (nI n)), (4, .int 0)], [.int (v 75 (14 : Int32).toNatClampNeg)])) (h' := zH (zb v 68 (upd (upd (v 68) 0 0) 11 0)) w t) rfl rfl ?_
  show zk_T zk_mt zk_ex Ls xs zm_248 (44, [(0, .ref 69), (1, .int (nI a)), (2, .int (nI e)), (3, .int (nI n)), (4, .int 0)], [.int (v 75 14)]) (zH (zb v 68 (upd (upd (v 68) 0 0) 11 0)) w t) _
  refine zk_T.adv 1 (f' := (45, [(0, .ref 69), (1, .int (nI a)), (2, .int (nI e)), (3, .int (nI n)), (4, .int 0)], [.int (nI a), .int (v 75 14)])) (h' := zH (zb v 68 (upd (upd (v 68) 0 0) 11 0)) w t) rfl ?_
  refine zk_T.cl (v := some (.int 0)) (h' := zH (zb v 68 (upd (upd (v 68) 0 0) 11 0)) w t) rfl (by have ee_ : zk_Cr zk_mt zk_ex Ls xs 49 [.int (v 75 14), .int (nI a)] (zH (zb v 68 (upd (upd (v 68) 0 0) 11 0)) w t) (some (.int (zr_mhasBit (v 75 14) (nI a))), zH (zb v 68 (upd (upd (v 68) 0 0) 11 0)) w t) := zs_mhasBit (v := (zb v 68 (upd (upd (v 68) 0 0) 11 0))) (w := w) (v 75 14) (nI a); rw [show (zr_mhasBit (v 75 14) (nI a)) = 0 from hlo] at ee_; exact ee_) ?_
  show zk_T zk_mt zk_ex Ls xs zm_248 (48, [(0, .ref 69), (1, .int (nI a)), (2, .int (nI e)), (3, .int (nI n)), (4, .int 0)], [.int 0]) (zH (zb v 68 (upd (upd (v 68) 0 0) 11 0)) w t) _
  refine zk_T.br (f1 := (51, [(0, .ref 69), (1, .int (nI a)), (2, .int (nI e)), (3, .int (nI n)), (4, .int 0)], [])) (f2 := (60, [(0, .ref 69), (1, .int (nI a)), (2, .int (nI e)), (3, .int (nI n)), (4, .int 0)], [])) rfl (fun c4 => ?_) (fun c4 => absurd (by decide) (of_decide_eq_false c4))
  refine zk_T.adv 3 (f' := (54, [(0, .ref 69), (1, .int (nI a)), (2, .int (nI e)), (3, .int (nI n)), (4, .int 0)], [.int (nI a), .int (nI e), .ref 69])) (h' := zH (zb v 68 (upd (upd (v 68) 0 0) 11 0)) w t) rfl ?_
  refine zk_T.cl (v := some (.int 0)) (h' := zH (zb v 68 (upd (upd (v 68) 0 0) 11 0)) w t) rfl (by have ee_ : zk_Cr zk_mt zk_ex Ls xs 120 [.ref 69, .int (nI e), .int (nI a)] (zH (zb v 68 (upd (upd (v 68) 0 0) 11 0)) w t) (some (.int (zr_misTaken Gn (v 75) (nI e) (nI a))), zH (zb v 68 (upd (upd (v 68) 0 0) 11 0)) w t) := zs_misTaken (v := (zb v 68 (upd (upd (v 68) 0 0) 11 0))) (w := w) Gn hG h4 (nI e) (nI a); rw [show (zr_misTaken Gn (v 75) (nI e) (nI a)) = 0 from htk] at ee_; exact ee_) ?_
  show zk_T zk_mt zk_ex Ls xs zm_248 (57, [(0, .ref 69), (1, .int (nI a)), (2, .int (nI e)), (3, .int (nI n)), (4, .int 0)], [.int 0]) (zH (zb v 68 (upd (upd (v 68) 0 0) 11 0)) w t) _
  refine zk_T.br (f1 := (63, [(0, .ref 69), (1, .int (nI a)), (2, .int (nI e)), (3, .int (nI n)), (4, .int 0)], [])) (f2 := (60, [(0, .ref 69), (1, .int (nI a)), (2, .int (nI e)), (3, .int (nI n)), (4, .int 0)], [])) rfl (fun c5 => ?_) (fun c5 => absurd (by decide) (of_decide_eq_false c5))
  refine zk_T.adv 1 (f' := (65, [(0, .ref 69), (1, .int (nI a)), (2, .int (nI e)), (3, .int (nI n)), (4, .int 0)], [.int 0])) (h' := zH (zb v 68 (upd (upd (v 68) 0 0) 11 0)) w t) rfl ?_
  refine zk_T.br (f1 := (75, [(0, .ref 69), (1, .int (nI a)), (2, .int (nI e)), (3, .int (nI n)), (4, .int 0)], [])) (f2 := (68, [(0, .ref 69), (1, .int (nI a)), (2, .int (nI e)), (3, .int (nI n)), (4, .int 0)], [])) rfl (fun c6 => ?_) (fun c6 => absurd (by decide) (of_decide_eq_false c6))
  refine zk_T.adv 1 (f' := (76, [(0, .ref 69), (1, .int (nI a)), (2, .int (nI e)), (3, .int (nI n)), (4, .int 0)], [.ref 69])) (h' := zH (zb v 68 (upd (upd (v 68) 0 0) 11 0)) w t) rfl ?_
  refine zk_T.cl (v := none) (h' := zH (zb (zb (zb (zb (zb (zb v 68 (upd (upd (upd (v 68) 0 0) 11 0) 26 ((zr_mbegin (v 75) (v 76) (v 80) (v 81) (v 82) (v 79)).2.1))) 76 ((zr_mbegin (v 75) (v 76) (v 80) (v 81) (v 82) (v 79)).1)) 79 ((zr_mbegin (v 75) (v 76) (v 80) (v 81) (v 82) (v 79)).2.2.2.2.2)) 80 ((zr_mbegin (v 75) (v 76) (v 80) (v 81) (v 82) (v 79)).2.2.1)) 81 ((zr_mbegin (v 75) (v 76) (v 80) (v 81) (v 82) (v 79)).2.2.2.1)) 82 ((zr_mbegin (v 75) (v 76) (v 80) (v 81) (v 82) (v 79)).2.2.2.2.1)) w t) rfl (zs_mbegin (v := (zb v 68 (upd (upd (v 68) 0 0) 11 0))) (w := w)) ?_
  show zk_T zk_mt zk_ex Ls xs zm_248 (79, [(0, .ref 69), (1, .int (nI a)), (2, .int (nI e)), (3, .int (nI n)), (4, .int 0)], []) (zH (zb (zb (zb (zb (zb (zb v 68 (upd (upd (upd (v 68) 0 0) 11 0) 26 ((zr_mbegin (v 75) (v 76) (v 80) (v 81) (v 82) (v 79)).2.1))) 76 ((zr_mbegin (v 75) (v 76) (v 80) (v 81) (v 82) (v 79)).1)) 79 ((zr_mbegin (v 75) (v 76) (v 80) (v 81) (v 82) (v 79)).2.2.2.2.2)) 80 ((zr_mbegin (v 75) (v 76) (v 80) (v 81) (v 82) (v 79)).2.2.1)) 81 ((zr_mbegin (v 75) (v 76) (v 80) (v 81) (v 82) (v 79)).2.2.2.1)) 82 ((zr_mbegin (v 75) (v 76) (v 80) (v 81) (v 82) (v 79)).2.2.2.2.1)) w t) _
  obtain ⟨bg1, hbg1⟩ : ∃ z, z = (zr_mbegin (v 75) (v 76) (v 80) (v 81) (v 82) (v 79)) := ⟨_, rfl⟩
  rw [← hbg1]
  show zk_T zk_mt zk_ex Ls xs zm_248 (79, [(0, .ref 69), (1, .int (nI a)), (2, .int (nI e)), (3, .int (nI n)), (4, .int 0)], []) (zH (zb (zb (zb (zb (zb (zb v 68 (upd (upd (upd (v 68) 0 0) 11 0) 26 (bg1.2.1))) 76 bg1.1) 79 bg1.2.2.2.2.2) 80 bg1.2.2.1) 81 bg1.2.2.2.1) 82 bg1.2.2.2.2.1) w t) _
  refine zk_T.adv 5 (f' := (87, [(0, .ref 69), (1, .int (nI a)), (2, .int (nI e)), (3, .int (nI n)), (4, .int 0)], [.int (10 + (nI a)), .ref 77])) (h' := zH (zb (zb (zb (zb (zb (zb v 68 (upd (upd (upd (v 68) 0 0) 11 0) 26 (bg1.2.1))) 76 bg1.1) 79 bg1.2.2.2.2.2) 80 bg1.2.2.1) 81 bg1.2.2.2.1) 82 bg1.2.2.2.2.1) w t) rfl ?_
  rw [show 10 + (nI a) = nI (10 + a) from nI_add 10 a]
  refine zk_T.adv 3 (f' := (90, [(0, .ref 69), (1, .int (nI a)), (2, .int (nI e)), (3, .int (nI n)), (4, .int 0)], [.int ((nI e) + 1), .int (nI (10 + a)), .ref 77])) (h' := zH (zb (zb (zb (zb (zb (zb v 68 (upd (upd (upd (v 68) 0 0) 11 0) 26 (bg1.2.1))) 76 bg1.1) 79 bg1.2.2.2.2.2) 80 bg1.2.2.1) 81 bg1.2.2.2.1) 82 bg1.2.2.2.2.1) w t) rfl ?_
  rw [show (nI e) + 1 = nI (e + 1) from nI_add e 1]
  refine zk_T.ob (f' := (91, [(0, .ref 69), (1, .int (nI a)), (2, .int (nI e)), (3, .int (nI n)), (4, .int 0)], [])) (h' := zH (zb (zb (zb (zb (zb (zb v 68 (upd (upd (upd (v 68) 0 0) 11 0) 26 (bg1.2.1))) 76 (upd bg1.1 (nI (10 + a)).toNatClampNeg (nI (e + 1)))) 79 bg1.2.2.2.2.2) 80 bg1.2.2.1) 81 bg1.2.2.2.1) 82 bg1.2.2.2.2.1) w t) rfl (by first | exact zk_inN (by omega) (by decide) | decide) ?_
  rw [nI_clamp (show (10 + a) < 2 ^ 31 by omega)]
  refine zk_T.adv 2 (f' := (93, [(0, .ref 69), (1, .int (nI a)), (2, .int (nI e)), (3, .int (nI n)), (4, .int 0)], [.int (nI n), .ref 69])) (h' := zH (zb (zb (zb (zb (zb (zb v 68 (upd (upd (upd (v 68) 0 0) 11 0) 26 (bg1.2.1))) 76 (upd bg1.1 (10 + a) (nI (e + 1)))) 79 bg1.2.2.2.2.2) 80 bg1.2.2.1) 81 bg1.2.2.2.1) 82 bg1.2.2.2.2.1) w t) rfl ?_
  refine zk_T.cl (v := none) (h' := zH (zb (zb (zb (zb (zb (zb v 68 (upd (upd (upd (v 68) 0 0) 11 0) 26 ((zr_mgo n D Gn (v 71) bg1.2.2.2.2.2 (upd bg1.1 (10 + a) (nI (e + 1))) bg1.2.1 bg1.2.2.1 bg1.2.2.2.1 bg1.2.2.2.2.1).2.1))) 76 ((zr_mgo n D Gn (v 71) bg1.2.2.2.2.2 (upd bg1.1 (10 + a) (nI (e + 1))) bg1.2.1 bg1.2.2.1 bg1.2.2.2.1 bg1.2.2.2.2.1).1)) 79 bg1.2.2.2.2.2) 80 ((zr_mgo n D Gn (v 71) bg1.2.2.2.2.2 (upd bg1.1 (10 + a) (nI (e + 1))) bg1.2.1 bg1.2.2.1 bg1.2.2.2.1 bg1.2.2.2.2.1).2.2.1)) 81 ((zr_mgo n D Gn (v 71) bg1.2.2.2.2.2 (upd bg1.1 (10 + a) (nI (e + 1))) bg1.2.1 bg1.2.2.1 bg1.2.2.2.1 bg1.2.2.2.2.1).2.2.2.1)) 82 ((zr_mgo n D Gn (v 71) bg1.2.2.2.2.2 (upd bg1.1 (10 + a) (nI (e + 1))) bg1.2.1 bg1.2.2.1 bg1.2.2.2.1 bg1.2.2.2.2.1).2.2.2.2)) w t) rfl (zs_mgoOn (v := (zb (zb (zb (zb (zb (zb v 68 (upd (upd (upd (v 68) 0 0) 11 0) 26 (bg1.2.1))) 76 (upd bg1.1 (10 + a) (nI (e + 1)))) 79 bg1.2.2.2.2.2) 80 bg1.2.2.1) 81 bg1.2.2.2.1) 82 bg1.2.2.2.2.1)) n (by omega) D hD h8 Gn hG h4 hev (zk_lieP (by rw [hbg1]; exact (zr_mbegin_lie (row := v 76) (lt := v 80) (lw := v 81) (oo := v 82) (slp := v 79) hli h4)) he)) ?_
  show zk_T zk_mt zk_ex Ls xs zm_248 (96, [(0, .ref 69), (1, .int (nI a)), (2, .int (nI e)), (3, .int (nI n)), (4, .int 0)], []) (zH (zb (zb (zb (zb (zb (zb v 68 (upd (upd (upd (v 68) 0 0) 11 0) 26 ((zr_mgo n D Gn (v 71) bg1.2.2.2.2.2 (upd bg1.1 (10 + a) (nI (e + 1))) bg1.2.1 bg1.2.2.1 bg1.2.2.2.1 bg1.2.2.2.2.1).2.1))) 76 ((zr_mgo n D Gn (v 71) bg1.2.2.2.2.2 (upd bg1.1 (10 + a) (nI (e + 1))) bg1.2.1 bg1.2.2.1 bg1.2.2.2.1 bg1.2.2.2.2.1).1)) 79 bg1.2.2.2.2.2) 80 ((zr_mgo n D Gn (v 71) bg1.2.2.2.2.2 (upd bg1.1 (10 + a) (nI (e + 1))) bg1.2.1 bg1.2.2.1 bg1.2.2.2.1 bg1.2.2.2.2.1).2.2.1)) 81 ((zr_mgo n D Gn (v 71) bg1.2.2.2.2.2 (upd bg1.1 (10 + a) (nI (e + 1))) bg1.2.1 bg1.2.2.1 bg1.2.2.2.1 bg1.2.2.2.2.1).2.2.2.1)) 82 ((zr_mgo n D Gn (v 71) bg1.2.2.2.2.2 (upd bg1.1 (10 + a) (nI (e + 1))) bg1.2.1 bg1.2.2.1 bg1.2.2.2.1 bg1.2.2.2.2.1).2.2.2.2)) w t) _
  obtain ⟨bg2, hbg2⟩ : ∃ z, z = (zr_mgo n D Gn (v 71) bg1.2.2.2.2.2 (upd bg1.1 (10 + a) (nI (e + 1))) bg1.2.1 bg1.2.2.1 bg1.2.2.2.1 bg1.2.2.2.2.1) := ⟨_, rfl⟩
  rw [← hbg2]
  show zk_T zk_mt zk_ex Ls xs zm_248 (96, [(0, .ref 69), (1, .int (nI a)), (2, .int (nI e)), (3, .int (nI n)), (4, .int 0)], []) (zH (zb (zb (zb (zb (zb (zb v 68 (upd (upd (upd (v 68) 0 0) 11 0) 26 (bg2.2.1))) 76 bg2.1) 79 bg1.2.2.2.2.2) 80 bg2.2.2.1) 81 bg2.2.2.2.1) 82 bg2.2.2.2.2) w t) _
  refine zk_T.adv 3 (f' := (101, [(0, .ref 69), (1, .int (nI a)), (2, .int (nI e)), (3, .int (nI n)), (4, .int 0)], [.ref 77, .ref 69])) (h' := zH (zb (zb (zb (zb (zb (zb v 68 (upd (upd (upd (v 68) 0 0) 11 0) 26 (bg2.2.1))) 76 bg2.1) 79 bg1.2.2.2.2.2) 80 bg2.2.2.1) 81 bg2.2.2.2.1) 82 bg2.2.2.2.2) w t) rfl ?_
  refine zk_T.cl (v := some (.int (zr_mworth Gn (v 71) bg2.1))) (h' := zH (zb (zb (zb (zb (zb (zb v 68 (upd (upd (upd (v 68) 0 0) 11 0) 26 (bg2.2.1))) 76 bg2.1) 79 bg1.2.2.2.2.2) 80 bg2.2.2.1) 81 bg2.2.2.2.1) 82 bg2.2.2.2.2) w t) rfl (zs_mworthOnT (v := (zb (zb (zb (zb (zb (zb v 68 (upd (upd (upd (v 68) 0 0) 11 0) 26 (bg2.2.1))) 76 bg2.1) 79 bg1.2.2.2.2.2) 80 bg2.2.2.1) 81 bg2.2.2.2.1) 82 bg2.2.2.2.2)) (w := w) Gn hG h4) ?_
  show zk_T zk_mt zk_ex Ls xs zm_248 (104, [(0, .ref 69), (1, .int (nI a)), (2, .int (nI e)), (3, .int (nI n)), (4, .int 0)], [.int (zr_mworth Gn (v 71) bg2.1)]) (zH (zb (zb (zb (zb (zb (zb v 68 (upd (upd (upd (v 68) 0 0) 11 0) 26 (bg2.2.1))) 76 bg2.1) 79 bg1.2.2.2.2.2) 80 bg2.2.2.1) 81 bg2.2.2.2.1) 82 bg2.2.2.2.2) w t) _
  subst hbg2
  subst hbg1
  exact zk_T.rt rfl rfl (by rfl)
def zl_mnestMG (sv : Nat → Int32) (st : Int32) (j : Nat) (s : Int32) : Int32 := match s with
  | al => if (zr_mhasBit st (nI j)) = 0 then al ||| 0 else al ||| (sv (5 + j))
theorem zl_mnestM (Mn : Nat) (hM : v 71 2 = nI Mn) (h5 : Mn ≤ 5) (a : Nat) (be st : Int32) : ∀ (s : Int32) (q : Option Value × zk_H), zk_T zk_mt zk_ex Ls xs zm_169 ((fun (s : Int32) => ((85, [(0, .ref 69), (1, .int (nI a)), (2, .int be), (3, .int st), (4, .int s), (5, .int (nI (0 + Mn)))], []) : zk_F)) (zf (zl_mnestMG (v 75) st) Mn 0 s)) ((fun (s : Int32) => zH v w t) (zf (zl_mnestMG (v 75) st) Mn 0 s)) q → zk_T zk_mt zk_ex Ls xs zm_169 (41, [(0, .ref 69), (1, .int (nI a)), (2, .int be), (3, .int st), (4, .int s), (5, .int (nI 0))], []) (zH v w t) q := by
  intro s q hk
  refine zk_forK (M := zm_169) (fun j (s : Int32) => (41, [(0, .ref 69), (1, .int (nI a)), (2, .int be), (3, .int st), (4, .int s), (5, .int (nI j))], [])) (fun _ (s : Int32) => zH v w t) (zl_mnestMG (v 75) st) (fun _ _ => True) (fun (s : Int32) => (85, [(0, .ref 69), (1, .int (nI a)), (2, .int be), (3, .int st), (4, .int s), (5, .int (nI (0 + Mn)))], [])) (fun (s : Int32) => zH v w t) (Mn) 0 s (fun _ _ _ _ _ => trivial) (fun j s hj1 hj2 hp q hk => ?_) (fun s hp q hk => ?_) ?_ q hk
  · have hz := True.intro
    obtain ⟨al, rfl⟩ : ∃ z, z = s := ⟨_, rfl⟩
    show zk_T zk_mt zk_ex Ls xs zm_169 (41, [(0, .ref 69), (1, .int (nI a)), (2, .int be), (3, .int st), (4, .int al), (5, .int (nI j))], []) (zH v w t) q
    refine zk_T.adv 4 (f' := (48, [(0, .ref 69), (1, .int (nI a)), (2, .int be), (3, .int st), (4, .int al), (5, .int (nI j))], [.int 2, .ref 72, .int (nI j)])) (h' := zH v w t) rfl ?_
    refine zk_T.ob (f' := (49, [(0, .ref 69), (1, .int (nI a)), (2, .int be), (3, .int st), (4, .int al), (5, .int (nI j))], [.int (v 71 (2 : Int32).toNatClampNeg), .int (nI j)])) (h' := zH v w t) rfl rfl ?_
    show zk_T zk_mt zk_ex Ls xs zm_169 (49, [(0, .ref 69), (1, .int (nI a)), (2, .int be), (3, .int st), (4, .int al), (5, .int (nI j))], [.int (v 71 2), .int (nI j)]) (zH v w t) _
    refine zk_T.br (f1 := (85, [(0, .ref 69), (1, .int (nI a)), (2, .int be), (3, .int st), (4, .int al), (5, .int (nI j))], [])) (f2 := (52, [(0, .ref 69), (1, .int (nI a)), (2, .int be), (3, .int st), (4, .int al), (5, .int (nI j))], [])) rfl (fun c1 => absurd (of_decide_eq_true c1) (by rw [show _ = nI Mn from hM]; exact nI_ge (show j < Mn by omega) (by omega))) (fun c1 => ?_)
    refine zk_T.adv 3 (f' := (57, [(0, .ref 69), (1, .int (nI a)), (2, .int be), (3, .int st), (4, .int al), (5, .int (nI j))], [.int (nI j), .int st, .int al])) (h' := zH v w t) rfl ?_
    refine zk_T.cl (v := some (.int (zr_mhasBit st (nI j)))) (h' := zH v w t) rfl (zs_mhasBit st (nI j)) ?_
    show zk_T zk_mt zk_ex Ls xs zm_169 (60, [(0, .ref 69), (1, .int (nI a)), (2, .int be), (3, .int st), (4, .int al), (5, .int (nI j))], [.int (zr_mhasBit st (nI j)), .int al]) (zH v w t) _
    refine zk_T.br (f1 := (75, [(0, .ref 69), (1, .int (nI a)), (2, .int be), (3, .int st), (4, .int al), (5, .int (nI j))], [.int al])) (f2 := (63, [(0, .ref 69), (1, .int (nI a)), (2, .int be), (3, .int st), (4, .int al), (5, .int (nI j))], [.int al])) rfl (fun c2 => ?_) (fun c2 => ?_)
    · have c2 : (zr_mhasBit st (nI j)) = 0 := of_decide_eq_true c2
      refine zk_T.adv 5 (f' := (41, [(0, .ref 69), (1, .int (nI a)), (2, .int be), (3, .int st), (4, .int (al ||| 0)), (5, .int ((nI j) + 1))], [])) (h' := zH v w t) rfl ?_
      rw [nI_1]
      simp only [zl_mnestMG, if_pos c2] at hk
      exact hk
    · have c2 : ¬ ((zr_mhasBit st (nI j)) = 0) := of_decide_eq_false c2
      refine zk_T.adv 5 (f' := (71, [(0, .ref 69), (1, .int (nI a)), (2, .int be), (3, .int st), (4, .int al), (5, .int (nI j))], [.int (5 + (nI j)), .ref 76, .int al])) (h' := zH v w t) rfl ?_
      rw [show 5 + (nI j) = nI (5 + j) from nI_add 5 j]
      refine zk_T.ob (f' := (72, [(0, .ref 69), (1, .int (nI a)), (2, .int be), (3, .int st), (4, .int al), (5, .int (nI j))], [.int (v 75 (nI (5 + j)).toNatClampNeg), .int al])) (h' := zH v w t) rfl (by first | exact zk_inN (by omega) (by decide) | decide) ?_
      rw [nI_clamp (show (5 + j) < 2 ^ 31 by omega)]
      refine zk_T.adv 5 (f' := (41, [(0, .ref 69), (1, .int (nI a)), (2, .int be), (3, .int st), (4, .int (al ||| (v 75 (5 + j)))), (5, .int ((nI j) + 1))], [])) (h' := zH v w t) rfl ?_
      rw [nI_1]
      simp only [zl_mnestMG, if_neg c2] at hk
      exact hk
  · have hz := True.intro
    obtain ⟨al, rfl⟩ : ∃ z, z = s := ⟨_, rfl⟩
    show zk_T zk_mt zk_ex Ls xs zm_169 (41, [(0, .ref 69), (1, .int (nI a)), (2, .int be), (3, .int st), (4, .int al), (5, .int (nI (0 + Mn)))], []) (zH v w t) q
    refine zk_T.adv 4 (f' := (48, [(0, .ref 69), (1, .int (nI a)), (2, .int be), (3, .int st), (4, .int al), (5, .int (nI (0 + Mn)))], [.int 2, .ref 72, .int (nI (0 + Mn))])) (h' := zH v w t) rfl ?_
    refine zk_T.ob (f' := (49, [(0, .ref 69), (1, .int (nI a)), (2, .int be), (3, .int st), (4, .int al), (5, .int (nI (0 + Mn)))], [.int (v 71 (2 : Int32).toNatClampNeg), .int (nI (0 + Mn))])) (h' := zH v w t) rfl rfl ?_
    show zk_T zk_mt zk_ex Ls xs zm_169 (49, [(0, .ref 69), (1, .int (nI a)), (2, .int be), (3, .int st), (4, .int al), (5, .int (nI (0 + Mn)))], [.int (v 71 2), .int (nI (0 + Mn))]) (zH v w t) _
    refine zk_T.br (f1 := (85, [(0, .ref 69), (1, .int (nI a)), (2, .int be), (3, .int st), (4, .int al), (5, .int (nI (0 + Mn)))], [])) (f2 := (52, [(0, .ref 69), (1, .int (nI a)), (2, .int be), (3, .int st), (4, .int al), (5, .int (nI (0 + Mn)))], [])) rfl (fun c1 => ?_) (fun c1 => absurd (by rw [show _ = nI Mn from hM, Nat.zero_add]; exact nI_le (Nat.le_refl _) (by omega)) (of_decide_eq_false c1))
    exact hk
  · exact trivial
def zl_mnestG (Mn : Nat) (r st : Nat → Int32) (a : Nat) (j : Nat) (s : Int32) : Int32 := match s with
  | be => if ((r ((33 + (2 * a)) + 1)) &&& ((zf (zl_mnestMG (st) (nI j)) Mn 0 0) ^^^ (-1))) = 0 then if be < 0 then nI j else (if (zr_mones be) ≤ (zr_mones (nI j)) then be else nI j) else be
theorem zl_mnest (Mn : Nat) (hM : v 71 2 = nI Mn) (h5 : Mn ≤ 5) (N : Nat) (hN : 2 ^ Mn = N) (hN2 : N ≤ 256) (a : Nat) (ha : a < 4) : ∀ (s : Int32) (q : Option Value × zk_H), zk_T zk_mt zk_ex Ls xs zm_169 ((fun (s : Int32) => ((129, [(0, .ref 69), (1, .int (nI a)), (2, .int s), (3, .int (nI (0 + N)))], []) : zk_F)) (zf (zl_mnestG Mn (v 71) (v 75) a) N 0 s)) ((fun (s : Int32) => zH v w t) (zf (zl_mnestG Mn (v 71) (v 75) a) N 0 s)) q → zk_T zk_mt zk_ex Ls xs zm_169 (23, [(0, .ref 69), (1, .int (nI a)), (2, .int s), (3, .int (nI 0))], []) (zH v w t) q := by
  intro s q hk
  refine zk_forK (M := zm_169) (fun j (s : Int32) => (23, [(0, .ref 69), (1, .int (nI a)), (2, .int s), (3, .int (nI j))], [])) (fun _ (s : Int32) => zH v w t) (zl_mnestG Mn (v 71) (v 75) a) (fun _ _ => True) (fun (s : Int32) => (129, [(0, .ref 69), (1, .int (nI a)), (2, .int s), (3, .int (nI (0 + N)))], [])) (fun (s : Int32) => zH v w t) (N) 0 s (fun _ _ _ _ _ => trivial) (fun j s hj1 hj2 hp q hk => ?_) (fun s hp q hk => ?_) ?_ q hk
  · have hz := True.intro
    obtain ⟨be, rfl⟩ : ∃ z, z = s := ⟨_, rfl⟩
    show zk_T zk_mt zk_ex Ls xs zm_169 (23, [(0, .ref 69), (1, .int (nI a)), (2, .int be), (3, .int (nI j))], []) (zH v w t) q
    refine zk_T.adv 5 (f' := (30, [(0, .ref 69), (1, .int (nI a)), (2, .int be), (3, .int (nI j))], [.int 2, .ref 72, .int 1, .int (nI j)])) (h' := zH v w t) rfl ?_
    refine zk_T.ob (f' := (31, [(0, .ref 69), (1, .int (nI a)), (2, .int be), (3, .int (nI j))], [.int (v 71 (2 : Int32).toNatClampNeg), .int 1, .int (nI j)])) (h' := zH v w t) rfl rfl ?_
    show zk_T zk_mt zk_ex Ls xs zm_169 (31, [(0, .ref 69), (1, .int (nI a)), (2, .int be), (3, .int (nI j))], [.int (v 71 2), .int 1, .int (nI j)]) (zH v w t) _
    rw [hM]
    refine zk_T.adv 1 (f' := (32, [(0, .ref 69), (1, .int (nI a)), (2, .int be), (3, .int (nI j))], [.int ((1 : Int32) <<< ((nI Mn) &&& 31)), .int (nI j)])) (h' := zH v w t) rfl ?_
    rw [show (1 : Int32) <<< ((nI Mn) &&& 31) = nI N from (by rw [zk_shl1 Mn (by omega), hN])]
    refine zk_T.br (f1 := (129, [(0, .ref 69), (1, .int (nI a)), (2, .int be), (3, .int (nI j))], [])) (f2 := (35, [(0, .ref 69), (1, .int (nI a)), (2, .int be), (3, .int (nI j))], [])) rfl (fun c1 => absurd (of_decide_eq_true c1) (nI_ge (show j < N by omega) (by omega))) (fun c1 => ?_)
    refine zk_T.adv 4 (f' := (41, [(0, .ref 69), (1, .int (nI a)), (2, .int be), (3, .int (nI j)), (4, .int 0), (5, .int 0)], [])) (h' := zH v w t) rfl ?_
    refine zl_mnestM (v := v) (w := w) (t := t) Mn hM h5 a be (nI j) 0 _ ?_
    show zk_T zk_mt zk_ex Ls xs zm_169 (85, [(0, .ref 69), (1, .int (nI a)), (2, .int be), (3, .int (nI j)), (4, .int (zf (zl_mnestMG (v 75) (nI j)) Mn 0 0)), (5, .int (nI (0 + Mn)))], []) (zH v w t) _
    refine zk_T.adv 6 (f' := (94, [(0, .ref 69), (1, .int (nI a)), (2, .int be), (3, .int (nI j)), (4, .int (zf (zl_mnestMG (v 75) (nI j)) Mn 0 0)), (5, .int (nI (0 + Mn)))], [.int (2 * (nI a)), .int 33, .ref 72])) (h' := zH v w t) rfl ?_
    rw [show 2 * (nI a) = nI (2 * a) from pk_mul 2 a]
    refine zk_T.adv 1 (f' := (95, [(0, .ref 69), (1, .int (nI a)), (2, .int be), (3, .int (nI j)), (4, .int (zf (zl_mnestMG (v 75) (nI j)) Mn 0 0)), (5, .int (nI (0 + Mn)))], [.int (33 + (nI (2 * a))), .ref 72])) (h' := zH v w t) rfl ?_
    rw [show 33 + (nI (2 * a)) = nI (33 + (2 * a)) from nI_add 33 (2 * a)]
    refine zk_T.adv 2 (f' := (97, [(0, .ref 69), (1, .int (nI a)), (2, .int be), (3, .int (nI j)), (4, .int (zf (zl_mnestMG (v 75) (nI j)) Mn 0 0)), (5, .int (nI (0 + Mn)))], [.int ((nI (33 + (2 * a))) + 1), .ref 72])) (h' := zH v w t) rfl ?_
    rw [show (nI (33 + (2 * a))) + 1 = nI ((33 + (2 * a)) + 1) from nI_add (33 + (2 * a)) 1]
    refine zk_T.ob (f' := (98, [(0, .ref 69), (1, .int (nI a)), (2, .int be), (3, .int (nI j)), (4, .int (zf (zl_mnestMG (v 75) (nI j)) Mn 0 0)), (5, .int (nI (0 + Mn)))], [.int (v 71 (nI ((33 + (2 * a)) + 1)).toNatClampNeg)])) (h' := zH v w t) rfl (by first | exact zk_inN (by omega) (by decide) | decide) ?_
    rw [nI_clamp (show ((33 + (2 * a)) + 1) < 2 ^ 31 by omega)]
    refine zk_T.adv 4 (f' := (103, [(0, .ref 69), (1, .int (nI a)), (2, .int be), (3, .int (nI j)), (4, .int (zf (zl_mnestMG (v 75) (nI j)) Mn 0 0)), (5, .int (nI (0 + Mn)))], [.int ((v 71 ((33 + (2 * a)) + 1)) &&& ((zf (zl_mnestMG (v 75) (nI j)) Mn 0 0) ^^^ (-1)))])) (h' := zH v w t) rfl ?_
    refine zk_T.br (f1 := (106, [(0, .ref 69), (1, .int (nI a)), (2, .int be), (3, .int (nI j)), (4, .int (zf (zl_mnestMG (v 75) (nI j)) Mn 0 0)), (5, .int (nI (0 + Mn)))], [])) (f2 := (123, [(0, .ref 69), (1, .int (nI a)), (2, .int be), (3, .int (nI j)), (4, .int (zf (zl_mnestMG (v 75) (nI j)) Mn 0 0)), (5, .int (nI (0 + Mn)))], [])) rfl (fun c2 => ?_) (fun c2 => ?_)
    · have c2 : ((v 71 ((33 + (2 * a)) + 1)) &&& ((zf (zl_mnestMG (v 75) (nI j)) Mn 0 0) ^^^ (-1))) = 0 := of_decide_eq_true c2
      refine zk_T.adv 1 (f' := (107, [(0, .ref 69), (1, .int (nI a)), (2, .int be), (3, .int (nI j)), (4, .int (zf (zl_mnestMG (v 75) (nI j)) Mn 0 0)), (5, .int (nI (0 + Mn)))], [.int be])) (h' := zH v w t) rfl ?_
      refine zk_T.br (f1 := (121, [(0, .ref 69), (1, .int (nI a)), (2, .int be), (3, .int (nI j)), (4, .int (zf (zl_mnestMG (v 75) (nI j)) Mn 0 0)), (5, .int (nI (0 + Mn)))], [])) (f2 := (110, [(0, .ref 69), (1, .int (nI a)), (2, .int be), (3, .int (nI j)), (4, .int (zf (zl_mnestMG (v 75) (nI j)) Mn 0 0)), (5, .int (nI (0 + Mn)))], [])) rfl (fun c3 => ?_) (fun c3 => ?_)
      · have c3 : be < 0 := of_decide_eq_true c3
        refine zk_T.adv 4 (f' := (23, [(0, .ref 69), (1, .int (nI a)), (2, .int (nI j)), (3, .int ((nI j) + 1))], [])) (h' := zH v w t) rfl ?_
        rw [nI_1]
        simp only [zl_mnestG, if_pos c2, if_pos c3] at hk
        exact hk
      · have c3 : ¬ (be < 0) := of_decide_eq_false c3
        refine zk_T.adv 1 (f' := (111, [(0, .ref 69), (1, .int (nI a)), (2, .int be), (3, .int (nI j)), (4, .int (zf (zl_mnestMG (v 75) (nI j)) Mn 0 0)), (5, .int (nI (0 + Mn)))], [.int (nI j)])) (h' := zH v w t) rfl ?_
        refine zk_T.cl (v := some (.int (zr_mones (nI j)))) (h' := zH v w t) rfl (zs_mones (nI j)) ?_
        show zk_T zk_mt zk_ex Ls xs zm_169 (114, [(0, .ref 69), (1, .int (nI a)), (2, .int be), (3, .int (nI j)), (4, .int (zf (zl_mnestMG (v 75) (nI j)) Mn 0 0)), (5, .int (nI (0 + Mn)))], [.int (zr_mones (nI j))]) (zH v w t) _
        refine zk_T.adv 1 (f' := (115, [(0, .ref 69), (1, .int (nI a)), (2, .int be), (3, .int (nI j)), (4, .int (zf (zl_mnestMG (v 75) (nI j)) Mn 0 0)), (5, .int (nI (0 + Mn)))], [.int be, .int (zr_mones (nI j))])) (h' := zH v w t) rfl ?_
        refine zk_T.cl (v := some (.int (zr_mones be))) (h' := zH v w t) rfl (zs_mones be) ?_
        show zk_T zk_mt zk_ex Ls xs zm_169 (118, [(0, .ref 69), (1, .int (nI a)), (2, .int be), (3, .int (nI j)), (4, .int (zf (zl_mnestMG (v 75) (nI j)) Mn 0 0)), (5, .int (nI (0 + Mn)))], [.int (zr_mones be), .int (zr_mones (nI j))]) (zH v w t) _
        refine zk_T.br (f1 := (123, [(0, .ref 69), (1, .int (nI a)), (2, .int be), (3, .int (nI j)), (4, .int (zf (zl_mnestMG (v 75) (nI j)) Mn 0 0)), (5, .int (nI (0 + Mn)))], [])) (f2 := (121, [(0, .ref 69), (1, .int (nI a)), (2, .int be), (3, .int (nI j)), (4, .int (zf (zl_mnestMG (v 75) (nI j)) Mn 0 0)), (5, .int (nI (0 + Mn)))], [])) rfl (fun c4 => ?_) (fun c4 => ?_)
        · have c4 : (zr_mones be) ≤ (zr_mones (nI j)) := of_decide_eq_true c4
          refine zk_T.adv 2 (f' := (23, [(0, .ref 69), (1, .int (nI a)), (2, .int be), (3, .int ((nI j) + 1))], [])) (h' := zH v w t) rfl ?_
          rw [nI_1]
          simp only [zl_mnestG, if_pos c2, if_neg c3, if_pos c4] at hk
          exact hk
        · have c4 : ¬ ((zr_mones be) ≤ (zr_mones (nI j))) := of_decide_eq_false c4
          refine zk_T.adv 4 (f' := (23, [(0, .ref 69), (1, .int (nI a)), (2, .int (nI j)), (3, .int ((nI j) + 1))], [])) (h' := zH v w t) rfl ?_
          rw [nI_1]
          simp only [zl_mnestG, if_pos c2, if_neg c3, if_neg c4] at hk
          exact hk
    · have c2 : ¬ (((v 71 ((33 + (2 * a)) + 1)) &&& ((zf (zl_mnestMG (v 75) (nI j)) Mn 0 0) ^^^ (-1))) = 0) := of_decide_eq_false c2
      refine zk_T.adv 2 (f' := (23, [(0, .ref 69), (1, .int (nI a)), (2, .int be), (3, .int ((nI j) + 1))], [])) (h' := zH v w t) rfl ?_
      rw [nI_1]
      simp only [zl_mnestG, if_neg c2] at hk
      exact hk
  · have hz := True.intro
    obtain ⟨be, rfl⟩ : ∃ z, z = s := ⟨_, rfl⟩
    show zk_T zk_mt zk_ex Ls xs zm_169 (23, [(0, .ref 69), (1, .int (nI a)), (2, .int be), (3, .int (nI (0 + N)))], []) (zH v w t) q
    refine zk_T.adv 5 (f' := (30, [(0, .ref 69), (1, .int (nI a)), (2, .int be), (3, .int (nI (0 + N)))], [.int 2, .ref 72, .int 1, .int (nI (0 + N))])) (h' := zH v w t) rfl ?_
    refine zk_T.ob (f' := (31, [(0, .ref 69), (1, .int (nI a)), (2, .int be), (3, .int (nI (0 + N)))], [.int (v 71 (2 : Int32).toNatClampNeg), .int 1, .int (nI (0 + N))])) (h' := zH v w t) rfl rfl ?_
    show zk_T zk_mt zk_ex Ls xs zm_169 (31, [(0, .ref 69), (1, .int (nI a)), (2, .int be), (3, .int (nI (0 + N)))], [.int (v 71 2), .int 1, .int (nI (0 + N))]) (zH v w t) _
    rw [hM]
    refine zk_T.adv 1 (f' := (32, [(0, .ref 69), (1, .int (nI a)), (2, .int be), (3, .int (nI (0 + N)))], [.int ((1 : Int32) <<< ((nI Mn) &&& 31)), .int (nI (0 + N))])) (h' := zH v w t) rfl ?_
    rw [show (1 : Int32) <<< ((nI Mn) &&& 31) = nI N from (by rw [zk_shl1 Mn (by omega), hN])]
    refine zk_T.br (f1 := (129, [(0, .ref 69), (1, .int (nI a)), (2, .int be), (3, .int (nI (0 + N)))], [])) (f2 := (35, [(0, .ref 69), (1, .int (nI a)), (2, .int be), (3, .int (nI (0 + N)))], [])) rfl (fun c1 => ?_) (fun c1 => absurd (by rw [Nat.zero_add]; exact nI_le (Nat.le_refl _) (by omega)) (of_decide_eq_false c1))
    exact hk
  · exact trivial
/-- BasketKeepModel.nest -/
theorem zM_nest_t (x : Int32) (hg : zr_misX (v 68 14) (v 71 3) x = 0) : zk_Cr zk_mt zk_ex Ls xs 169 [.ref 69, .int x] (zH v w t) (some (.int (-1)), zH (zb v 68 (upd (upd (v 68) 0 0) 11 1)) w t) := by
  refine zk_Cr.of (K := zm_169) rfl rfl rfl ?_
  show zk_T zk_mt zk_ex Ls xs zm_169 (0, [(0, .ref 69), (1, .int x)], []) (zH v w t) _
  refine zk_T.adv 1 (f' := (1, [(0, .ref 69), (1, .int x)], [.ref 69])) (h' := zH v w t) rfl ?_
  refine zk_T.cl (v := none) (h' := zH (zb v 68 (upd (upd (v 68) 0 0) 11 0)) w t) rfl (zs_manew (v := v) (w := w)) ?_
  show zk_T zk_mt zk_ex Ls xs zm_169 (4, [(0, .ref 69), (1, .int x)], []) (zH (zb v 68 (upd (upd (v 68) 0 0) 11 0)) w t) _
  refine zk_T.adv 2 (f' := (6, [(0, .ref 69), (1, .int x)], [.int x, .ref 69])) (h' := zH (zb v 68 (upd (upd (v 68) 0 0) 11 0)) w t) rfl ?_
  refine zk_T.cl (v := some (.int 0)) (h' := zH (zb v 68 (upd (upd (v 68) 0 0) 11 0)) w t) rfl (by have ee_ : zk_Cr zk_mt zk_ex Ls xs 117 [.ref 69, .int x] (zH (zb v 68 (upd (upd (v 68) 0 0) 11 0)) w t) (some (.int (zr_misX (v 68 14) (v 71 3) x)), zH (zb v 68 (upd (upd (v 68) 0 0) 11 0)) w t) := zs_misGood (v := (zb v 68 (upd (upd (v 68) 0 0) 11 0))) (w := w) x; rw [show (zr_misX (v 68 14) (v 71 3) x) = 0 from hg] at ee_; exact ee_) ?_
  show zk_T zk_mt zk_ex Ls xs zm_169 (9, [(0, .ref 69), (1, .int x)], [.int 0]) (zH (zb v 68 (upd (upd (v 68) 0 0) 11 0)) w t) _
  refine zk_T.br (f1 := (12, [(0, .ref 69), (1, .int x)], [])) (f2 := (18, [(0, .ref 69), (1, .int x)], [])) rfl (fun c1 => ?_) (fun c1 => absurd (by decide) (of_decide_eq_false c1))
  refine zk_T.adv 2 (f' := (14, [(0, .ref 69), (1, .int x)], [.int 1, .ref 69])) (h' := zH (zb v 68 (upd (upd (v 68) 0 0) 11 0)) w t) rfl ?_
  refine zk_T.cl (v := some (.int (-1))) (h' := zH (zb v 68 (upd (upd (v 68) 0 0) 11 1)) w t) rfl (zs_mno (v := (zb v 68 (upd (upd (v 68) 0 0) 11 0))) (w := w) 1) ?_
  show zk_T zk_mt zk_ex Ls xs zm_169 (17, [(0, .ref 69), (1, .int x)], [.int (-1)]) (zH (zb v 68 (upd (upd (v 68) 0 0) 11 1)) w t) _
  exact zk_T.rt rfl rfl (by rfl)
def zr_mnest (Mn N : Nat) (r st : Nat → Int32) (a : Nat) : Int32 := (zf (zl_mnestG Mn (r) (st) a) N 0 (-2))
/-- BasketKeepModel.nest -/
theorem zM_nest_f (a : Nat) (ha : a < 4) (hg : zr_misX (v 68 14) (v 71 3) (nI a) = 1) (Mn : Nat) (hM : v 71 2 = nI Mn) (h5 : Mn ≤ 5) (N : Nat) (hN : 2 ^ Mn = N) (hN2 : N ≤ 256) : zk_Cr zk_mt zk_ex Ls xs 169 [.ref 69, .int (nI a)] (zH v w t) (some (.int (zr_mnest Mn N (v 71) (v 75) a)), zH (zb v 68 (upd (upd (v 68) 0 0) 11 0)) w t) := by
  refine zk_Cr.of (K := zm_169) rfl rfl rfl ?_
  show zk_T zk_mt zk_ex Ls xs zm_169 (0, [(0, .ref 69), (1, .int (nI a))], []) (zH v w t) _
  refine zk_T.adv 1 (f' := (1, [(0, .ref 69), (1, .int (nI a))], [.ref 69])) (h' := zH v w t) rfl ?_
  refine zk_T.cl (v := none) (h' := zH (zb v 68 (upd (upd (v 68) 0 0) 11 0)) w t) rfl (zs_manew (v := v) (w := w)) ?_
  show zk_T zk_mt zk_ex Ls xs zm_169 (4, [(0, .ref 69), (1, .int (nI a))], []) (zH (zb v 68 (upd (upd (v 68) 0 0) 11 0)) w t) _
  refine zk_T.adv 2 (f' := (6, [(0, .ref 69), (1, .int (nI a))], [.int (nI a), .ref 69])) (h' := zH (zb v 68 (upd (upd (v 68) 0 0) 11 0)) w t) rfl ?_
  refine zk_T.cl (v := some (.int 1)) (h' := zH (zb v 68 (upd (upd (v 68) 0 0) 11 0)) w t) rfl (by have ee_ : zk_Cr zk_mt zk_ex Ls xs 117 [.ref 69, .int (nI a)] (zH (zb v 68 (upd (upd (v 68) 0 0) 11 0)) w t) (some (.int (zr_misX (v 68 14) (v 71 3) (nI a))), zH (zb v 68 (upd (upd (v 68) 0 0) 11 0)) w t) := zs_misGood (v := (zb v 68 (upd (upd (v 68) 0 0) 11 0))) (w := w) (nI a); rw [show (zr_misX (v 68 14) (v 71 3) (nI a)) = 1 from hg] at ee_; exact ee_) ?_
  show zk_T zk_mt zk_ex Ls xs zm_169 (9, [(0, .ref 69), (1, .int (nI a))], [.int 1]) (zH (zb v 68 (upd (upd (v 68) 0 0) 11 0)) w t) _
  refine zk_T.br (f1 := (12, [(0, .ref 69), (1, .int (nI a))], [])) (f2 := (18, [(0, .ref 69), (1, .int (nI a))], [])) rfl (fun c1 => absurd (of_decide_eq_true c1) (by decide)) (fun c1 => ?_)
  refine zk_T.adv 4 (f' := (23, [(0, .ref 69), (1, .int (nI a)), (2, .int (-2)), (3, .int 0)], [])) (h' := zH (zb v 68 (upd (upd (v 68) 0 0) 11 0)) w t) rfl ?_
  refine zl_mnest (v := (zb v 68 (upd (upd (v 68) 0 0) 11 0))) (w := w) (t := t) Mn hM h5 N hN hN2 a ha (-2) _ ?_
  show zk_T zk_mt zk_ex Ls xs zm_169 (129, [(0, .ref 69), (1, .int (nI a)), (2, .int (zf (zl_mnestG Mn (v 71) (v 75) a) N 0 (-2))), (3, .int (nI (0 + N)))], []) (zH (zb v 68 (upd (upd (v 68) 0 0) 11 0)) w t) _
  refine zk_T.adv 1 (f' := (130, [(0, .ref 69), (1, .int (nI a)), (2, .int (zf (zl_mnestG Mn (v 71) (v 75) a) N 0 (-2))), (3, .int (nI (0 + N)))], [.int (zf (zl_mnestG Mn (v 71) (v 75) a) N 0 (-2))])) (h' := zH (zb v 68 (upd (upd (v 68) 0 0) 11 0)) w t) rfl ?_
  exact zk_T.rt rfl rfl (by rfl)
def zl_mbesG (n D Gn : Nat) (r st : Nat → Int32) (a e : Nat) (j : Nat) (s : Int32 × (Nat → Int32) × Int32 × (Nat → Int32) × (Nat → Int32) × (Nat → Int32) × (Nat → Int32)) : Int32 × (Nat → Int32) × Int32 × (Nat → Int32) × (Nat → Int32) × (Nat → Int32) × (Nat → Int32) := match s with
  | (be, row, ou, lt, lw, oo, slp) => if ((nI j) &&& (st (5 + e))) = 0 then if be < 0 then if (zr_mhasBit ((zr_mgo n D Gn (r) (zr_mbegin (st) row lt lw oo slp).2.2.2.2.2 (upd (zr_mbegin (st) row lt lw oo slp).1 (5 + e) (((zr_mbegin (st) row lt lw oo slp).1 (5 + e)) ||| (nI j))) (zr_mbegin (st) row lt lw oo slp).2.1 (zr_mbegin (st) row lt lw oo slp).2.2.1 (zr_mbegin (st) row lt lw oo slp).2.2.2.1 (zr_mbegin (st) row lt lw oo slp).2.2.2.2.1).1 14) (nI a)) = 0 then (nI j, (zr_mgo n D Gn (r) (zr_mbegin (st) row lt lw oo slp).2.2.2.2.2 (upd (zr_mbegin (st) row lt lw oo slp).1 (5 + e) (((zr_mbegin (st) row lt lw oo slp).1 (5 + e)) ||| (nI j))) (zr_mbegin (st) row lt lw oo slp).2.1 (zr_mbegin (st) row lt lw oo slp).2.2.1 (zr_mbegin (st) row lt lw oo slp).2.2.2.1 (zr_mbegin (st) row lt lw oo slp).2.2.2.2.1).1, (zr_mgo n D Gn (r) (zr_mbegin (st) row lt lw oo slp).2.2.2.2.2 (upd (zr_mbegin (st) row lt lw oo slp).1 (5 + e) (((zr_mbegin (st) row lt lw oo slp).1 (5 + e)) ||| (nI j))) (zr_mbegin (st) row lt lw oo slp).2.1 (zr_mbegin (st) row lt lw oo slp).2.2.1 (zr_mbegin (st) row lt lw oo slp).2.2.2.1 (zr_mbegin (st) row lt lw oo slp).2.2.2.2.1).2.1, (zr_mgo n D Gn (r) (zr_mbegin (st) row lt lw oo slp).2.2.2.2.2 (upd (zr_mbegin (st) row lt lw oo slp).1 (5 + e) (((zr_mbegin (st) row lt lw oo slp).1 (5 + e)) ||| (nI j))) (zr_mbegin (st) row lt lw oo slp).2.1 (zr_mbegin (st) row lt lw oo slp).2.2.1 (zr_mbegin (st) row lt lw oo slp).2.2.2.1 (zr_mbegin (st) row lt lw oo slp).2.2.2.2.1).2.2.1, (zr_mgo n D Gn (r) (zr_mbegin (st) row lt lw oo slp).2.2.2.2.2 (upd (zr_mbegin (st) row lt lw oo slp).1 (5 + e) (((zr_mbegin (st) row lt lw oo slp).1 (5 + e)) ||| (nI j))) (zr_mbegin (st) row lt lw oo slp).2.1 (zr_mbegin (st) row lt lw oo slp).2.2.1 (zr_mbegin (st) row lt lw oo slp).2.2.2.1 (zr_mbegin (st) row lt lw oo slp).2.2.2.2.1).2.2.2.1, (zr_mgo n D Gn (r) (zr_mbegin (st) row lt lw oo slp).2.2.2.2.2 (upd (zr_mbegin (st) row lt lw oo slp).1 (5 + e) (((zr_mbegin (st) row lt lw oo slp).1 (5 + e)) ||| (nI j))) (zr_mbegin (st) row lt lw oo slp).2.1 (zr_mbegin (st) row lt lw oo slp).2.2.1 (zr_mbegin (st) row lt lw oo slp).2.2.2.1 (zr_mbegin (st) row lt lw oo slp).2.2.2.2.1).2.2.2.2, (zr_mbegin (st) row lt lw oo slp).2.2.2.2.2) else (be, (zr_mgo n D Gn (r) (zr_mbegin (st) row lt lw oo slp).2.2.2.2.2 (upd (zr_mbegin (st) row lt lw oo slp).1 (5 + e) (((zr_mbegin (st) row lt lw oo slp).1 (5 + e)) ||| (nI j))) (zr_mbegin (st) row lt lw oo slp).2.1 (zr_mbegin (st) row lt lw oo slp).2.2.1 (zr_mbegin (st) row lt lw oo slp).2.2.2.1 (zr_mbegin (st) row lt lw oo slp).2.2.2.2.1).1, (zr_mgo n D Gn (r) (zr_mbegin (st) row lt lw oo slp).2.2.2.2.2 (upd (zr_mbegin (st) row lt lw oo slp).1 (5 + e) (((zr_mbegin (st) row lt lw oo slp).1 (5 + e)) ||| (nI j))) (zr_mbegin (st) row lt lw oo slp).2.1 (zr_mbegin (st) row lt lw oo slp).2.2.1 (zr_mbegin (st) row lt lw oo slp).2.2.2.1 (zr_mbegin (st) row lt lw oo slp).2.2.2.2.1).2.1, (zr_mgo n D Gn (r) (zr_mbegin (st) row lt lw oo slp).2.2.2.2.2 (upd (zr_mbegin (st) row lt lw oo slp).1 (5 + e) (((zr_mbegin (st) row lt lw oo slp).1 (5 + e)) ||| (nI j))) (zr_mbegin (st) row lt lw oo slp).2.1 (zr_mbegin (st) row lt lw oo slp).2.2.1 (zr_mbegin (st) row lt lw oo slp).2.2.2.1 (zr_mbegin (st) row lt lw oo slp).2.2.2.2.1).2.2.1, (zr_mgo n D Gn (r) (zr_mbegin (st) row lt lw oo slp).2.2.2.2.2 (upd (zr_mbegin (st) row lt lw oo slp).1 (5 + e) (((zr_mbegin (st) row lt lw oo slp).1 (5 + e)) ||| (nI j))) (zr_mbegin (st) row lt lw oo slp).2.1 (zr_mbegin (st) row lt lw oo slp).2.2.1 (zr_mbegin (st) row lt lw oo slp).2.2.2.1 (zr_mbegin (st) row lt lw oo slp).2.2.2.2.1).2.2.2.1, (zr_mgo n D Gn (r) (zr_mbegin (st) row lt lw oo slp).2.2.2.2.2 (upd (zr_mbegin (st) row lt lw oo slp).1 (5 + e) (((zr_mbegin (st) row lt lw oo slp).1 (5 + e)) ||| (nI j))) (zr_mbegin (st) row lt lw oo slp).2.1 (zr_mbegin (st) row lt lw oo slp).2.2.1 (zr_mbegin (st) row lt lw oo slp).2.2.2.1 (zr_mbegin (st) row lt lw oo slp).2.2.2.2.1).2.2.2.2, (zr_mbegin (st) row lt lw oo slp).2.2.2.2.2) else (if (zr_mones (nI j)) < (zr_mones be) then if (zr_mhasBit ((zr_mgo n D Gn (r) (zr_mbegin (st) row lt lw oo slp).2.2.2.2.2 (upd (zr_mbegin (st) row lt lw oo slp).1 (5 + e) (((zr_mbegin (st) row lt lw oo slp).1 (5 + e)) ||| (nI j))) (zr_mbegin (st) row lt lw oo slp).2.1 (zr_mbegin (st) row lt lw oo slp).2.2.1 (zr_mbegin (st) row lt lw oo slp).2.2.2.1 (zr_mbegin (st) row lt lw oo slp).2.2.2.2.1).1 14) (nI a)) = 0 then (nI j, (zr_mgo n D Gn (r) (zr_mbegin (st) row lt lw oo slp).2.2.2.2.2 (upd (zr_mbegin (st) row lt lw oo slp).1 (5 + e) (((zr_mbegin (st) row lt lw oo slp).1 (5 + e)) ||| (nI j))) (zr_mbegin (st) row lt lw oo slp).2.1 (zr_mbegin (st) row lt lw oo slp).2.2.1 (zr_mbegin (st) row lt lw oo slp).2.2.2.1 (zr_mbegin (st) row lt lw oo slp).2.2.2.2.1).1, (zr_mgo n D Gn (r) (zr_mbegin (st) row lt lw oo slp).2.2.2.2.2 (upd (zr_mbegin (st) row lt lw oo slp).1 (5 + e) (((zr_mbegin (st) row lt lw oo slp).1 (5 + e)) ||| (nI j))) (zr_mbegin (st) row lt lw oo slp).2.1 (zr_mbegin (st) row lt lw oo slp).2.2.1 (zr_mbegin (st) row lt lw oo slp).2.2.2.1 (zr_mbegin (st) row lt lw oo slp).2.2.2.2.1).2.1, (zr_mgo n D Gn (r) (zr_mbegin (st) row lt lw oo slp).2.2.2.2.2 (upd (zr_mbegin (st) row lt lw oo slp).1 (5 + e) (((zr_mbegin (st) row lt lw oo slp).1 (5 + e)) ||| (nI j))) (zr_mbegin (st) row lt lw oo slp).2.1 (zr_mbegin (st) row lt lw oo slp).2.2.1 (zr_mbegin (st) row lt lw oo slp).2.2.2.1 (zr_mbegin (st) row lt lw oo slp).2.2.2.2.1).2.2.1, (zr_mgo n D Gn (r) (zr_mbegin (st) row lt lw oo slp).2.2.2.2.2 (upd (zr_mbegin (st) row lt lw oo slp).1 (5 + e) (((zr_mbegin (st) row lt lw oo slp).1 (5 + e)) ||| (nI j))) (zr_mbegin (st) row lt lw oo slp).2.1 (zr_mbegin (st) row lt lw oo slp).2.2.1 (zr_mbegin (st) row lt lw oo slp).2.2.2.1 (zr_mbegin (st) row lt lw oo slp).2.2.2.2.1).2.2.2.1, (zr_mgo n D Gn (r) (zr_mbegin (st) row lt lw oo slp).2.2.2.2.2 (upd (zr_mbegin (st) row lt lw oo slp).1 (5 + e) (((zr_mbegin (st) row lt lw oo slp).1 (5 + e)) ||| (nI j))) (zr_mbegin (st) row lt lw oo slp).2.1 (zr_mbegin (st) row lt lw oo slp).2.2.1 (zr_mbegin (st) row lt lw oo slp).2.2.2.1 (zr_mbegin (st) row lt lw oo slp).2.2.2.2.1).2.2.2.2, (zr_mbegin (st) row lt lw oo slp).2.2.2.2.2) else (be, (zr_mgo n D Gn (r) (zr_mbegin (st) row lt lw oo slp).2.2.2.2.2 (upd (zr_mbegin (st) row lt lw oo slp).1 (5 + e) (((zr_mbegin (st) row lt lw oo slp).1 (5 + e)) ||| (nI j))) (zr_mbegin (st) row lt lw oo slp).2.1 (zr_mbegin (st) row lt lw oo slp).2.2.1 (zr_mbegin (st) row lt lw oo slp).2.2.2.1 (zr_mbegin (st) row lt lw oo slp).2.2.2.2.1).1, (zr_mgo n D Gn (r) (zr_mbegin (st) row lt lw oo slp).2.2.2.2.2 (upd (zr_mbegin (st) row lt lw oo slp).1 (5 + e) (((zr_mbegin (st) row lt lw oo slp).1 (5 + e)) ||| (nI j))) (zr_mbegin (st) row lt lw oo slp).2.1 (zr_mbegin (st) row lt lw oo slp).2.2.1 (zr_mbegin (st) row lt lw oo slp).2.2.2.1 (zr_mbegin (st) row lt lw oo slp).2.2.2.2.1).2.1, (zr_mgo n D Gn (r) (zr_mbegin (st) row lt lw oo slp).2.2.2.2.2 (upd (zr_mbegin (st) row lt lw oo slp).1 (5 + e) (((zr_mbegin (st) row lt lw oo slp).1 (5 + e)) ||| (nI j))) (zr_mbegin (st) row lt lw oo slp).2.1 (zr_mbegin (st) row lt lw oo slp).2.2.1 (zr_mbegin (st) row lt lw oo slp).2.2.2.1 (zr_mbegin (st) row lt lw oo slp).2.2.2.2.1).2.2.1, (zr_mgo n D Gn (r) (zr_mbegin (st) row lt lw oo slp).2.2.2.2.2 (upd (zr_mbegin (st) row lt lw oo slp).1 (5 + e) (((zr_mbegin (st) row lt lw oo slp).1 (5 + e)) ||| (nI j))) (zr_mbegin (st) row lt lw oo slp).2.1 (zr_mbegin (st) row lt lw oo slp).2.2.1 (zr_mbegin (st) row lt lw oo slp).2.2.2.1 (zr_mbegin (st) row lt lw oo slp).2.2.2.2.1).2.2.2.1, (zr_mgo n D Gn (r) (zr_mbegin (st) row lt lw oo slp).2.2.2.2.2 (upd (zr_mbegin (st) row lt lw oo slp).1 (5 + e) (((zr_mbegin (st) row lt lw oo slp).1 (5 + e)) ||| (nI j))) (zr_mbegin (st) row lt lw oo slp).2.1 (zr_mbegin (st) row lt lw oo slp).2.2.1 (zr_mbegin (st) row lt lw oo slp).2.2.2.1 (zr_mbegin (st) row lt lw oo slp).2.2.2.2.1).2.2.2.2, (zr_mbegin (st) row lt lw oo slp).2.2.2.2.2) else (be, row, ou, lt, lw, oo, slp)) else (be, row, ou, lt, lw, oo, slp)
theorem zl_mbes (D : Nat) (hD : v 71 1 = nI D) (h8 : D ≤ 8) (Gn : Nat) (hG : v 71 3 = nI Gn) (h4 : Gn ≤ 4) (hev : ∀ d, d < D → ¬ v 71 (7 + 2 * d) = 0) (hli : zk_lie Gn (v 75)) (N : Nat) (hN : 2 ^ D = N) (hN2 : N ≤ 256) (n : Nat) (hn : n ≤ 60) (a e : Nat) (ha : a < 4) (he : e < 5) : ∀ (s : Int32 × (Nat → Int32) × Int32 × (Nat → Int32) × (Nat → Int32) × (Nat → Int32) × (Nat → Int32)) (q : Option Value × zk_H), zk_T zk_mt zk_ex Ls xs zm_240 ((fun (s : Int32 × (Nat → Int32) × Int32 × (Nat → Int32) × (Nat → Int32) × (Nat → Int32) × (Nat → Int32)) => ((173, [(0, .ref 69), (1, .int (nI a)), (2, .int (nI n)), (4, .int (nI e)), (5, .int s.1), (6, .int (nI (0 + N)))], []) : zk_F)) (zf (zl_mbesG n D Gn (v 71) (v 75) a e) N 0 s)) ((fun (s : Int32 × (Nat → Int32) × Int32 × (Nat → Int32) × (Nat → Int32) × (Nat → Int32) × (Nat → Int32)) => zH (zb (zb (zb (zb (zb (zb v 68 (upd (upd (upd (v 68) 0 0) 11 0) 26 s.2.2.1)) 76 s.2.1) 79 s.2.2.2.2.2.2) 80 s.2.2.2.1) 81 s.2.2.2.2.1) 82 s.2.2.2.2.2.1) w t) (zf (zl_mbesG n D Gn (v 71) (v 75) a e) N 0 s)) q → zk_T zk_mt zk_ex Ls xs zm_240 (77, [(0, .ref 69), (1, .int (nI a)), (2, .int (nI n)), (4, .int (nI e)), (5, .int s.1), (6, .int (nI 0))], []) (zH (zb (zb (zb (zb (zb (zb v 68 (upd (upd (upd (v 68) 0 0) 11 0) 26 s.2.2.1)) 76 s.2.1) 79 s.2.2.2.2.2.2) 80 s.2.2.2.1) 81 s.2.2.2.2.1) 82 s.2.2.2.2.2.1) w t) q := by
  intro s q hk
  refine zk_forK (M := zm_240) (fun j (s : Int32 × (Nat → Int32) × Int32 × (Nat → Int32) × (Nat → Int32) × (Nat → Int32) × (Nat → Int32)) => (77, [(0, .ref 69), (1, .int (nI a)), (2, .int (nI n)), (4, .int (nI e)), (5, .int s.1), (6, .int (nI j))], [])) (fun _ (s : Int32 × (Nat → Int32) × Int32 × (Nat → Int32) × (Nat → Int32) × (Nat → Int32) × (Nat → Int32)) => zH (zb (zb (zb (zb (zb (zb v 68 (upd (upd (upd (v 68) 0 0) 11 0) 26 s.2.2.1)) 76 s.2.1) 79 s.2.2.2.2.2.2) 80 s.2.2.2.1) 81 s.2.2.2.2.1) 82 s.2.2.2.2.2.1) w t) (zl_mbesG n D Gn (v 71) (v 75) a e) (fun _ _ => True) (fun (s : Int32 × (Nat → Int32) × Int32 × (Nat → Int32) × (Nat → Int32) × (Nat → Int32) × (Nat → Int32)) => (173, [(0, .ref 69), (1, .int (nI a)), (2, .int (nI n)), (4, .int (nI e)), (5, .int s.1), (6, .int (nI (0 + N)))], [])) (fun (s : Int32 × (Nat → Int32) × Int32 × (Nat → Int32) × (Nat → Int32) × (Nat → Int32) × (Nat → Int32)) => zH (zb (zb (zb (zb (zb (zb v 68 (upd (upd (upd (v 68) 0 0) 11 0) 26 s.2.2.1)) 76 s.2.1) 79 s.2.2.2.2.2.2) 80 s.2.2.2.1) 81 s.2.2.2.2.1) 82 s.2.2.2.2.2.1) w t) (N) 0 s (fun _ _ _ _ _ => trivial) (fun j s hj1 hj2 hp q hk => ?_) (fun s hp q hk => ?_) ?_ q hk
  · obtain ⟨be, row, ou, lt, lw, oo, slp⟩ := s
    show zk_T zk_mt zk_ex Ls xs zm_240 (77, [(0, .ref 69), (1, .int (nI a)), (2, .int (nI n)), (4, .int (nI e)), (5, .int be), (6, .int (nI j))], []) (zH (zb (zb (zb (zb (zb (zb v 68 (upd (upd (upd (v 68) 0 0) 11 0) 26 ou)) 76 row) 79 slp) 80 lt) 81 lw) 82 oo) w t) q
    refine zk_T.adv 5 (f' := (85, [(0, .ref 69), (1, .int (nI a)), (2, .int (nI n)), (4, .int (nI e)), (5, .int be), (6, .int (nI j))], [.int 1, .ref 72, .int 1, .int (nI j)])) (h' := zH (zb (zb (zb (zb (zb (zb v 68 (upd (upd (upd (v 68) 0 0) 11 0) 26 ou)) 76 row) 79 slp) 80 lt) 81 lw) 82 oo) w t) rfl ?_
    refine zk_T.ob (f' := (86, [(0, .ref 69), (1, .int (nI a)), (2, .int (nI n)), (4, .int (nI e)), (5, .int be), (6, .int (nI j))], [.int (v 71 (1 : Int32).toNatClampNeg), .int 1, .int (nI j)])) (h' := zH (zb (zb (zb (zb (zb (zb v 68 (upd (upd (upd (v 68) 0 0) 11 0) 26 ou)) 76 row) 79 slp) 80 lt) 81 lw) 82 oo) w t) rfl rfl ?_
    show zk_T zk_mt zk_ex Ls xs zm_240 (86, [(0, .ref 69), (1, .int (nI a)), (2, .int (nI n)), (4, .int (nI e)), (5, .int be), (6, .int (nI j))], [.int (v 71 1), .int 1, .int (nI j)]) (zH (zb (zb (zb (zb (zb (zb v 68 (upd (upd (upd (v 68) 0 0) 11 0) 26 ou)) 76 row) 79 slp) 80 lt) 81 lw) 82 oo) w t) _
    rw [hD]
    refine zk_T.adv 1 (f' := (87, [(0, .ref 69), (1, .int (nI a)), (2, .int (nI n)), (4, .int (nI e)), (5, .int be), (6, .int (nI j))], [.int ((1 : Int32) <<< ((nI D) &&& 31)), .int (nI j)])) (h' := zH (zb (zb (zb (zb (zb (zb v 68 (upd (upd (upd (v 68) 0 0) 11 0) 26 ou)) 76 row) 79 slp) 80 lt) 81 lw) 82 oo) w t) rfl ?_
    rw [show (1 : Int32) <<< ((nI D) &&& 31) = nI N from (by rw [zk_shl1 D (by omega), hN])]
    refine zk_T.br (f1 := (173, [(0, .ref 69), (1, .int (nI a)), (2, .int (nI n)), (4, .int (nI e)), (5, .int be), (6, .int (nI j))], [])) (f2 := (90, [(0, .ref 69), (1, .int (nI a)), (2, .int (nI n)), (4, .int (nI e)), (5, .int be), (6, .int (nI j))], [])) rfl (fun c1 => absurd (of_decide_eq_true c1) (nI_ge (show j < N by omega) (by omega))) (fun c1 => ?_)
    refine zk_T.adv 6 (f' := (100, [(0, .ref 69), (1, .int (nI a)), (2, .int (nI n)), (4, .int (nI e)), (5, .int be), (6, .int (nI j))], [.int (5 + (nI e)), .ref 76, .int (nI j)])) (h' := zH (zb (zb (zb (zb (zb (zb v 68 (upd (upd (upd (v 68) 0 0) 11 0) 26 ou)) 76 row) 79 slp) 80 lt) 81 lw) 82 oo) w t) rfl ?_
    rw [show 5 + (nI e) = nI (5 + e) from nI_add 5 e]
    refine zk_T.ob (f' := (101, [(0, .ref 69), (1, .int (nI a)), (2, .int (nI n)), (4, .int (nI e)), (5, .int be), (6, .int (nI j))], [.int (v 75 (nI (5 + e)).toNatClampNeg), .int (nI j)])) (h' := zH (zb (zb (zb (zb (zb (zb v 68 (upd (upd (upd (v 68) 0 0) 11 0) 26 ou)) 76 row) 79 slp) 80 lt) 81 lw) 82 oo) w t) rfl (by first | exact zk_inN (by omega) (by decide) | decide) ?_
    rw [nI_clamp (show (5 + e) < 2 ^ 31 by omega)]
    refine zk_T.adv 1 (f' := (102, [(0, .ref 69), (1, .int (nI a)), (2, .int (nI n)), (4, .int (nI e)), (5, .int be), (6, .int (nI j))], [.int ((nI j) &&& (v 75 (5 + e)))])) (h' := zH (zb (zb (zb (zb (zb (zb v 68 (upd (upd (upd (v 68) 0 0) 11 0) 26 ou)) 76 row) 79 slp) 80 lt) 81 lw) 82 oo) w t) rfl ?_
    refine zk_T.br (f1 := (105, [(0, .ref 69), (1, .int (nI a)), (2, .int (nI n)), (4, .int (nI e)), (5, .int be), (6, .int (nI j))], [])) (f2 := (167, [(0, .ref 69), (1, .int (nI a)), (2, .int (nI n)), (4, .int (nI e)), (5, .int be), (6, .int (nI j))], [])) rfl (fun c2 => ?_) (fun c2 => ?_)
    · have c2 : ((nI j) &&& (v 75 (5 + e))) = 0 := of_decide_eq_true c2
      refine zk_T.adv 1 (f' := (107, [(0, .ref 69), (1, .int (nI a)), (2, .int (nI n)), (4, .int (nI e)), (5, .int be), (6, .int (nI j))], [.int be])) (h' := zH (zb (zb (zb (zb (zb (zb v 68 (upd (upd (upd (v 68) 0 0) 11 0) 26 ou)) 76 row) 79 slp) 80 lt) 81 lw) 82 oo) w t) rfl ?_
      refine zk_T.br (f1 := (126, [(0, .ref 69), (1, .int (nI a)), (2, .int (nI n)), (4, .int (nI e)), (5, .int be), (6, .int (nI j))], [])) (f2 := (110, [(0, .ref 69), (1, .int (nI a)), (2, .int (nI n)), (4, .int (nI e)), (5, .int be), (6, .int (nI j))], [])) rfl (fun c3 => ?_) (fun c3 => ?_)
      · have c3 : be < 0 := of_decide_eq_true c3
        refine zk_T.adv 1 (f' := (127, [(0, .ref 69), (1, .int (nI a)), (2, .int (nI n)), (4, .int (nI e)), (5, .int be), (6, .int (nI j))], [.ref 69])) (h' := zH (zb (zb (zb (zb (zb (zb v 68 (upd (upd (upd (v 68) 0 0) 11 0) 26 ou)) 76 row) 79 slp) 80 lt) 81 lw) 82 oo) w t) rfl ?_
        refine zk_T.cl (v := none) (h' := zH (zb (zb (zb (zb (zb (zb v 68 (upd (upd (upd (v 68) 0 0) 11 0) 26 ((zr_mbegin (v 75) row lt lw oo slp).2.1))) 76 ((zr_mbegin (v 75) row lt lw oo slp).1)) 79 ((zr_mbegin (v 75) row lt lw oo slp).2.2.2.2.2)) 80 ((zr_mbegin (v 75) row lt lw oo slp).2.2.1)) 81 ((zr_mbegin (v 75) row lt lw oo slp).2.2.2.1)) 82 ((zr_mbegin (v 75) row lt lw oo slp).2.2.2.2.1)) w t) rfl (zs_mbegin (v := (zb (zb (zb (zb (zb (zb v 68 (upd (upd (upd (v 68) 0 0) 11 0) 26 ou)) 76 row) 79 slp) 80 lt) 81 lw) 82 oo)) (w := w)) ?_
        show zk_T zk_mt zk_ex Ls xs zm_240 (130, [(0, .ref 69), (1, .int (nI a)), (2, .int (nI n)), (4, .int (nI e)), (5, .int be), (6, .int (nI j))], []) (zH (zb (zb (zb (zb (zb (zb v 68 (upd (upd (upd (v 68) 0 0) 11 0) 26 ((zr_mbegin (v 75) row lt lw oo slp).2.1))) 76 ((zr_mbegin (v 75) row lt lw oo slp).1)) 79 ((zr_mbegin (v 75) row lt lw oo slp).2.2.2.2.2)) 80 ((zr_mbegin (v 75) row lt lw oo slp).2.2.1)) 81 ((zr_mbegin (v 75) row lt lw oo slp).2.2.2.1)) 82 ((zr_mbegin (v 75) row lt lw oo slp).2.2.2.2.1)) w t) _
        obtain ⟨bg1, hbg1⟩ : ∃ z, z = (zr_mbegin (v 75) row lt lw oo slp) := ⟨_, rfl⟩
        rw [← hbg1]
        show zk_T zk_mt zk_ex Ls xs zm_240 (130, [(0, .ref 69), (1, .int (nI a)), (2, .int (nI n)), (4, .int (nI e)), (5, .int be), (6, .int (nI j))], []) (zH (zb (zb (zb (zb (zb (zb v 68 (upd (upd (upd (v 68) 0 0) 11 0) 26 (bg1.2.1))) 76 bg1.1) 79 bg1.2.2.2.2.2) 80 bg1.2.2.1) 81 bg1.2.2.2.1) 82 bg1.2.2.2.2.1) w t) _
        refine zk_T.adv 5 (f' := (138, [(0, .ref 69), (1, .int (nI a)), (2, .int (nI n)), (4, .int (nI e)), (5, .int be), (6, .int (nI j))], [.int (5 + (nI e)), .ref 77])) (h' := zH (zb (zb (zb (zb (zb (zb v 68 (upd (upd (upd (v 68) 0 0) 11 0) 26 (bg1.2.1))) 76 bg1.1) 79 bg1.2.2.2.2.2) 80 bg1.2.2.1) 81 bg1.2.2.2.1) 82 bg1.2.2.2.2.1) w t) rfl ?_
        rw [show 5 + (nI e) = nI (5 + e) from nI_add 5 e]
        refine zk_T.adv 1 (f' := (139, [(0, .ref 69), (1, .int (nI a)), (2, .int (nI n)), (4, .int (nI e)), (5, .int be), (6, .int (nI j))], [.int (nI (5 + e)), .ref 77, .int (nI (5 + e)), .ref 77])) (h' := zH (zb (zb (zb (zb (zb (zb v 68 (upd (upd (upd (v 68) 0 0) 11 0) 26 (bg1.2.1))) 76 bg1.1) 79 bg1.2.2.2.2.2) 80 bg1.2.2.1) 81 bg1.2.2.2.1) 82 bg1.2.2.2.2.1) w t) rfl ?_
        refine zk_T.ob (f' := (140, [(0, .ref 69), (1, .int (nI a)), (2, .int (nI n)), (4, .int (nI e)), (5, .int be), (6, .int (nI j))], [.int (bg1.1 (nI (5 + e)).toNatClampNeg), .int (nI (5 + e)), .ref 77])) (h' := zH (zb (zb (zb (zb (zb (zb v 68 (upd (upd (upd (v 68) 0 0) 11 0) 26 (bg1.2.1))) 76 bg1.1) 79 bg1.2.2.2.2.2) 80 bg1.2.2.1) 81 bg1.2.2.2.1) 82 bg1.2.2.2.2.1) w t) rfl (by first | exact zk_inN (by omega) (by decide) | decide) ?_
        rw [nI_clamp (show (5 + e) < 2 ^ 31 by omega)]
        refine zk_T.adv 2 (f' := (143, [(0, .ref 69), (1, .int (nI a)), (2, .int (nI n)), (4, .int (nI e)), (5, .int be), (6, .int (nI j))], [.int ((bg1.1 (5 + e)) ||| (nI j)), .int (nI (5 + e)), .ref 77])) (h' := zH (zb (zb (zb (zb (zb (zb v 68 (upd (upd (upd (v 68) 0 0) 11 0) 26 (bg1.2.1))) 76 bg1.1) 79 bg1.2.2.2.2.2) 80 bg1.2.2.1) 81 bg1.2.2.2.1) 82 bg1.2.2.2.2.1) w t) rfl ?_
        refine zk_T.ob (f' := (144, [(0, .ref 69), (1, .int (nI a)), (2, .int (nI n)), (4, .int (nI e)), (5, .int be), (6, .int (nI j))], [])) (h' := zH (zb (zb (zb (zb (zb (zb v 68 (upd (upd (upd (v 68) 0 0) 11 0) 26 (bg1.2.1))) 76 (upd bg1.1 (nI (5 + e)).toNatClampNeg ((bg1.1 (5 + e)) ||| (nI j)))) 79 bg1.2.2.2.2.2) 80 bg1.2.2.1) 81 bg1.2.2.2.1) 82 bg1.2.2.2.2.1) w t) rfl (by first | exact zk_inN (by omega) (by decide) | decide) ?_
        rw [nI_clamp (show (5 + e) < 2 ^ 31 by omega)]
        refine zk_T.adv 2 (f' := (146, [(0, .ref 69), (1, .int (nI a)), (2, .int (nI n)), (4, .int (nI e)), (5, .int be), (6, .int (nI j))], [.int (nI n), .ref 69])) (h' := zH (zb (zb (zb (zb (zb (zb v 68 (upd (upd (upd (v 68) 0 0) 11 0) 26 (bg1.2.1))) 76 (upd bg1.1 (5 + e) ((bg1.1 (5 + e)) ||| (nI j)))) 79 bg1.2.2.2.2.2) 80 bg1.2.2.1) 81 bg1.2.2.2.1) 82 bg1.2.2.2.2.1) w t) rfl ?_
        refine zk_T.cl (v := none) (h' := zH (zb (zb (zb (zb (zb (zb v 68 (upd (upd (upd (v 68) 0 0) 11 0) 26 ((zr_mgo n D Gn (v 71) bg1.2.2.2.2.2 (upd bg1.1 (5 + e) ((bg1.1 (5 + e)) ||| (nI j))) bg1.2.1 bg1.2.2.1 bg1.2.2.2.1 bg1.2.2.2.2.1).2.1))) 76 ((zr_mgo n D Gn (v 71) bg1.2.2.2.2.2 (upd bg1.1 (5 + e) ((bg1.1 (5 + e)) ||| (nI j))) bg1.2.1 bg1.2.2.1 bg1.2.2.2.1 bg1.2.2.2.2.1).1)) 79 bg1.2.2.2.2.2) 80 ((zr_mgo n D Gn (v 71) bg1.2.2.2.2.2 (upd bg1.1 (5 + e) ((bg1.1 (5 + e)) ||| (nI j))) bg1.2.1 bg1.2.2.1 bg1.2.2.2.1 bg1.2.2.2.2.1).2.2.1)) 81 ((zr_mgo n D Gn (v 71) bg1.2.2.2.2.2 (upd bg1.1 (5 + e) ((bg1.1 (5 + e)) ||| (nI j))) bg1.2.1 bg1.2.2.1 bg1.2.2.2.1 bg1.2.2.2.2.1).2.2.2.1)) 82 ((zr_mgo n D Gn (v 71) bg1.2.2.2.2.2 (upd bg1.1 (5 + e) ((bg1.1 (5 + e)) ||| (nI j))) bg1.2.1 bg1.2.2.1 bg1.2.2.2.1 bg1.2.2.2.2.1).2.2.2.2)) w t) rfl (zs_mgoOn (v := (zb (zb (zb (zb (zb (zb v 68 (upd (upd (upd (v 68) 0 0) 11 0) 26 (bg1.2.1))) 76 (upd bg1.1 (5 + e) ((bg1.1 (5 + e)) ||| (nI j)))) 79 bg1.2.2.2.2.2) 80 bg1.2.2.1) 81 bg1.2.2.2.1) 82 bg1.2.2.2.2.1)) n (by omega) D hD h8 Gn hG h4 hev (zk_lieT (by rw [hbg1]; exact zr_mbegin_lie (row := row) (lt := lt) (lw := lw) (oo := oo) (slp := slp) hli h4) h4 he _)) ?_
        show zk_T zk_mt zk_ex Ls xs zm_240 (149, [(0, .ref 69), (1, .int (nI a)), (2, .int (nI n)), (4, .int (nI e)), (5, .int be), (6, .int (nI j))], []) (zH (zb (zb (zb (zb (zb (zb v 68 (upd (upd (upd (v 68) 0 0) 11 0) 26 ((zr_mgo n D Gn (v 71) bg1.2.2.2.2.2 (upd bg1.1 (5 + e) ((bg1.1 (5 + e)) ||| (nI j))) bg1.2.1 bg1.2.2.1 bg1.2.2.2.1 bg1.2.2.2.2.1).2.1))) 76 ((zr_mgo n D Gn (v 71) bg1.2.2.2.2.2 (upd bg1.1 (5 + e) ((bg1.1 (5 + e)) ||| (nI j))) bg1.2.1 bg1.2.2.1 bg1.2.2.2.1 bg1.2.2.2.2.1).1)) 79 bg1.2.2.2.2.2) 80 ((zr_mgo n D Gn (v 71) bg1.2.2.2.2.2 (upd bg1.1 (5 + e) ((bg1.1 (5 + e)) ||| (nI j))) bg1.2.1 bg1.2.2.1 bg1.2.2.2.1 bg1.2.2.2.2.1).2.2.1)) 81 ((zr_mgo n D Gn (v 71) bg1.2.2.2.2.2 (upd bg1.1 (5 + e) ((bg1.1 (5 + e)) ||| (nI j))) bg1.2.1 bg1.2.2.1 bg1.2.2.2.1 bg1.2.2.2.2.1).2.2.2.1)) 82 ((zr_mgo n D Gn (v 71) bg1.2.2.2.2.2 (upd bg1.1 (5 + e) ((bg1.1 (5 + e)) ||| (nI j))) bg1.2.1 bg1.2.2.1 bg1.2.2.2.1 bg1.2.2.2.2.1).2.2.2.2)) w t) _
        obtain ⟨bg2, hbg2⟩ : ∃ z, z = (zr_mgo n D Gn (v 71) bg1.2.2.2.2.2 (upd bg1.1 (5 + e) ((bg1.1 (5 + e)) ||| (nI j))) bg1.2.1 bg1.2.2.1 bg1.2.2.2.1 bg1.2.2.2.2.1) := ⟨_, rfl⟩
        rw [← hbg2]
        show zk_T zk_mt zk_ex Ls xs zm_240 (149, [(0, .ref 69), (1, .int (nI a)), (2, .int (nI n)), (4, .int (nI e)), (5, .int be), (6, .int (nI j))], []) (zH (zb (zb (zb (zb (zb (zb v 68 (upd (upd (upd (v 68) 0 0) 11 0) 26 (bg2.2.1))) 76 bg2.1) 79 bg1.2.2.2.2.2) 80 bg2.2.2.1) 81 bg2.2.2.2.1) 82 bg2.2.2.2.2) w t) _
        refine zk_T.adv 3 (f' := (155, [(0, .ref 69), (1, .int (nI a)), (2, .int (nI n)), (4, .int (nI e)), (5, .int be), (6, .int (nI j))], [.int 14, .ref 77])) (h' := zH (zb (zb (zb (zb (zb (zb v 68 (upd (upd (upd (v 68) 0 0) 11 0) 26 (bg2.2.1))) 76 bg2.1) 79 bg1.2.2.2.2.2) 80 bg2.2.2.1) 81 bg2.2.2.2.1) 82 bg2.2.2.2.2) w t) rfl ?_
        refine zk_T.ob (f' := (156, [(0, .ref 69), (1, .int (nI a)), (2, .int (nI n)), (4, .int (nI e)), (5, .int be), (6, .int (nI j))], [.int (bg2.1 (14 : Int32).toNatClampNeg)])) (h' := zH (zb (zb (zb (zb (zb (zb v 68 (upd (upd (upd (v 68) 0 0) 11 0) 26 (bg2.2.1))) 76 bg2.1) 79 bg1.2.2.2.2.2) 80 bg2.2.2.1) 81 bg2.2.2.2.1) 82 bg2.2.2.2.2) w t) rfl rfl ?_
        show zk_T zk_mt zk_ex Ls xs zm_240 (156, [(0, .ref 69), (1, .int (nI a)), (2, .int (nI n)), (4, .int (nI e)), (5, .int be), (6, .int (nI j))], [.int (bg2.1 14)]) (zH (zb (zb (zb (zb (zb (zb v 68 (upd (upd (upd (v 68) 0 0) 11 0) 26 (bg2.2.1))) 76 bg2.1) 79 bg1.2.2.2.2.2) 80 bg2.2.2.1) 81 bg2.2.2.2.1) 82 bg2.2.2.2.2) w t) _
        refine zk_T.adv 1 (f' := (157, [(0, .ref 69), (1, .int (nI a)), (2, .int (nI n)), (4, .int (nI e)), (5, .int be), (6, .int (nI j))], [.int (nI a), .int (bg2.1 14)])) (h' := zH (zb (zb (zb (zb (zb (zb v 68 (upd (upd (upd (v 68) 0 0) 11 0) 26 (bg2.2.1))) 76 bg2.1) 79 bg1.2.2.2.2.2) 80 bg2.2.2.1) 81 bg2.2.2.2.1) 82 bg2.2.2.2.2) w t) rfl ?_
        refine zk_T.cl (v := some (.int (zr_mhasBit (bg2.1 14) (nI a)))) (h' := zH (zb (zb (zb (zb (zb (zb v 68 (upd (upd (upd (v 68) 0 0) 11 0) 26 (bg2.2.1))) 76 bg2.1) 79 bg1.2.2.2.2.2) 80 bg2.2.2.1) 81 bg2.2.2.2.1) 82 bg2.2.2.2.2) w t) rfl (zs_mhasBit (bg2.1 14) (nI a)) ?_
        show zk_T zk_mt zk_ex Ls xs zm_240 (160, [(0, .ref 69), (1, .int (nI a)), (2, .int (nI n)), (4, .int (nI e)), (5, .int be), (6, .int (nI j))], [.int (zr_mhasBit (bg2.1 14) (nI a))]) (zH (zb (zb (zb (zb (zb (zb v 68 (upd (upd (upd (v 68) 0 0) 11 0) 26 (bg2.2.1))) 76 bg2.1) 79 bg1.2.2.2.2.2) 80 bg2.2.2.1) 81 bg2.2.2.2.1) 82 bg2.2.2.2.2) w t) _
        refine zk_T.br (f1 := (163, [(0, .ref 69), (1, .int (nI a)), (2, .int (nI n)), (4, .int (nI e)), (5, .int be), (6, .int (nI j))], [])) (f2 := (167, [(0, .ref 69), (1, .int (nI a)), (2, .int (nI n)), (4, .int (nI e)), (5, .int be), (6, .int (nI j))], [])) rfl (fun c4 => ?_) (fun c4 => ?_)
        · have c4 : (zr_mhasBit (bg2.1 14) (nI a)) = 0 := of_decide_eq_true c4
          refine zk_T.adv 4 (f' := (77, [(0, .ref 69), (1, .int (nI a)), (2, .int (nI n)), (4, .int (nI e)), (5, .int (nI j)), (6, .int ((nI j) + 1))], [])) (h' := zH (zb (zb (zb (zb (zb (zb v 68 (upd (upd (upd (v 68) 0 0) 11 0) 26 (bg2.2.1))) 76 bg2.1) 79 bg1.2.2.2.2.2) 80 bg2.2.2.1) 81 bg2.2.2.2.1) 82 bg2.2.2.2.2) w t) rfl ?_
          subst hbg2
          subst hbg1
          rw [nI_1]
          simp only [zl_mbesG, if_pos c2, if_pos c3, if_pos c4] at hk
          exact hk
        · have c4 : ¬ ((zr_mhasBit (bg2.1 14) (nI a)) = 0) := of_decide_eq_false c4
          refine zk_T.adv 2 (f' := (77, [(0, .ref 69), (1, .int (nI a)), (2, .int (nI n)), (4, .int (nI e)), (5, .int be), (6, .int ((nI j) + 1))], [])) (h' := zH (zb (zb (zb (zb (zb (zb v 68 (upd (upd (upd (v 68) 0 0) 11 0) 26 (bg2.2.1))) 76 bg2.1) 79 bg1.2.2.2.2.2) 80 bg2.2.2.1) 81 bg2.2.2.2.1) 82 bg2.2.2.2.2) w t) rfl ?_
          subst hbg2
          subst hbg1
          rw [nI_1]
          simp only [zl_mbesG, if_pos c2, if_pos c3, if_neg c4] at hk
          exact hk
      · have c3 : ¬ (be < 0) := of_decide_eq_false c3
        refine zk_T.adv 1 (f' := (112, [(0, .ref 69), (1, .int (nI a)), (2, .int (nI n)), (4, .int (nI e)), (5, .int be), (6, .int (nI j))], [.int (nI j)])) (h' := zH (zb (zb (zb (zb (zb (zb v 68 (upd (upd (upd (v 68) 0 0) 11 0) 26 ou)) 76 row) 79 slp) 80 lt) 81 lw) 82 oo) w t) rfl ?_
        refine zk_T.cl (v := some (.int (zr_mones (nI j)))) (h' := zH (zb (zb (zb (zb (zb (zb v 68 (upd (upd (upd (v 68) 0 0) 11 0) 26 ou)) 76 row) 79 slp) 80 lt) 81 lw) 82 oo) w t) rfl (zs_mones (nI j)) ?_
        show zk_T zk_mt zk_ex Ls xs zm_240 (115, [(0, .ref 69), (1, .int (nI a)), (2, .int (nI n)), (4, .int (nI e)), (5, .int be), (6, .int (nI j))], [.int (zr_mones (nI j))]) (zH (zb (zb (zb (zb (zb (zb v 68 (upd (upd (upd (v 68) 0 0) 11 0) 26 ou)) 76 row) 79 slp) 80 lt) 81 lw) 82 oo) w t) _
        refine zk_T.adv 1 (f' := (117, [(0, .ref 69), (1, .int (nI a)), (2, .int (nI n)), (4, .int (nI e)), (5, .int be), (6, .int (nI j))], [.int be, .int (zr_mones (nI j))])) (h' := zH (zb (zb (zb (zb (zb (zb v 68 (upd (upd (upd (v 68) 0 0) 11 0) 26 ou)) 76 row) 79 slp) 80 lt) 81 lw) 82 oo) w t) rfl ?_
        refine zk_T.cl (v := some (.int (zr_mones be))) (h' := zH (zb (zb (zb (zb (zb (zb v 68 (upd (upd (upd (v 68) 0 0) 11 0) 26 ou)) 76 row) 79 slp) 80 lt) 81 lw) 82 oo) w t) rfl (zs_mones be) ?_
        show zk_T zk_mt zk_ex Ls xs zm_240 (120, [(0, .ref 69), (1, .int (nI a)), (2, .int (nI n)), (4, .int (nI e)), (5, .int be), (6, .int (nI j))], [.int (zr_mones be), .int (zr_mones (nI j))]) (zH (zb (zb (zb (zb (zb (zb v 68 (upd (upd (upd (v 68) 0 0) 11 0) 26 ou)) 76 row) 79 slp) 80 lt) 81 lw) 82 oo) w t) _
        refine zk_T.br (f1 := (126, [(0, .ref 69), (1, .int (nI a)), (2, .int (nI n)), (4, .int (nI e)), (5, .int be), (6, .int (nI j))], [])) (f2 := (123, [(0, .ref 69), (1, .int (nI a)), (2, .int (nI n)), (4, .int (nI e)), (5, .int be), (6, .int (nI j))], [])) rfl (fun c5 => ?_) (fun c5 => ?_)
        · have c5 : (zr_mones (nI j)) < (zr_mones be) := of_decide_eq_true c5
          refine zk_T.adv 1 (f' := (127, [(0, .ref 69), (1, .int (nI a)), (2, .int (nI n)), (4, .int (nI e)), (5, .int be), (6, .int (nI j))], [.ref 69])) (h' := zH (zb (zb (zb (zb (zb (zb v 68 (upd (upd (upd (v 68) 0 0) 11 0) 26 ou)) 76 row) 79 slp) 80 lt) 81 lw) 82 oo) w t) rfl ?_
          refine zk_T.cl (v := none) (h' := zH (zb (zb (zb (zb (zb (zb v 68 (upd (upd (upd (v 68) 0 0) 11 0) 26 ((zr_mbegin (v 75) row lt lw oo slp).2.1))) 76 ((zr_mbegin (v 75) row lt lw oo slp).1)) 79 ((zr_mbegin (v 75) row lt lw oo slp).2.2.2.2.2)) 80 ((zr_mbegin (v 75) row lt lw oo slp).2.2.1)) 81 ((zr_mbegin (v 75) row lt lw oo slp).2.2.2.1)) 82 ((zr_mbegin (v 75) row lt lw oo slp).2.2.2.2.1)) w t) rfl (zs_mbegin (v := (zb (zb (zb (zb (zb (zb v 68 (upd (upd (upd (v 68) 0 0) 11 0) 26 ou)) 76 row) 79 slp) 80 lt) 81 lw) 82 oo)) (w := w)) ?_
          show zk_T zk_mt zk_ex Ls xs zm_240 (130, [(0, .ref 69), (1, .int (nI a)), (2, .int (nI n)), (4, .int (nI e)), (5, .int be), (6, .int (nI j))], []) (zH (zb (zb (zb (zb (zb (zb v 68 (upd (upd (upd (v 68) 0 0) 11 0) 26 ((zr_mbegin (v 75) row lt lw oo slp).2.1))) 76 ((zr_mbegin (v 75) row lt lw oo slp).1)) 79 ((zr_mbegin (v 75) row lt lw oo slp).2.2.2.2.2)) 80 ((zr_mbegin (v 75) row lt lw oo slp).2.2.1)) 81 ((zr_mbegin (v 75) row lt lw oo slp).2.2.2.1)) 82 ((zr_mbegin (v 75) row lt lw oo slp).2.2.2.2.1)) w t) _
          obtain ⟨bg3, hbg3⟩ : ∃ z, z = (zr_mbegin (v 75) row lt lw oo slp) := ⟨_, rfl⟩
          rw [← hbg3]
          show zk_T zk_mt zk_ex Ls xs zm_240 (130, [(0, .ref 69), (1, .int (nI a)), (2, .int (nI n)), (4, .int (nI e)), (5, .int be), (6, .int (nI j))], []) (zH (zb (zb (zb (zb (zb (zb v 68 (upd (upd (upd (v 68) 0 0) 11 0) 26 (bg3.2.1))) 76 bg3.1) 79 bg3.2.2.2.2.2) 80 bg3.2.2.1) 81 bg3.2.2.2.1) 82 bg3.2.2.2.2.1) w t) _
          refine zk_T.adv 5 (f' := (138, [(0, .ref 69), (1, .int (nI a)), (2, .int (nI n)), (4, .int (nI e)), (5, .int be), (6, .int (nI j))], [.int (5 + (nI e)), .ref 77])) (h' := zH (zb (zb (zb (zb (zb (zb v 68 (upd (upd (upd (v 68) 0 0) 11 0) 26 (bg3.2.1))) 76 bg3.1) 79 bg3.2.2.2.2.2) 80 bg3.2.2.1) 81 bg3.2.2.2.1) 82 bg3.2.2.2.2.1) w t) rfl ?_
          rw [show 5 + (nI e) = nI (5 + e) from nI_add 5 e]
          refine zk_T.adv 1 (f' := (139, [(0, .ref 69), (1, .int (nI a)), (2, .int (nI n)), (4, .int (nI e)), (5, .int be), (6, .int (nI j))], [.int (nI (5 + e)), .ref 77, .int (nI (5 + e)), .ref 77])) (h' := zH (zb (zb (zb (zb (zb (zb v 68 (upd (upd (upd (v 68) 0 0) 11 0) 26 (bg3.2.1))) 76 bg3.1) 79 bg3.2.2.2.2.2) 80 bg3.2.2.1) 81 bg3.2.2.2.1) 82 bg3.2.2.2.2.1) w t) rfl ?_
          refine zk_T.ob (f' := (140, [(0, .ref 69), (1, .int (nI a)), (2, .int (nI n)), (4, .int (nI e)), (5, .int be), (6, .int (nI j))], [.int (bg3.1 (nI (5 + e)).toNatClampNeg), .int (nI (5 + e)), .ref 77])) (h' := zH (zb (zb (zb (zb (zb (zb v 68 (upd (upd (upd (v 68) 0 0) 11 0) 26 (bg3.2.1))) 76 bg3.1) 79 bg3.2.2.2.2.2) 80 bg3.2.2.1) 81 bg3.2.2.2.1) 82 bg3.2.2.2.2.1) w t) rfl (by first | exact zk_inN (by omega) (by decide) | decide) ?_
          rw [nI_clamp (show (5 + e) < 2 ^ 31 by omega)]
          refine zk_T.adv 2 (f' := (143, [(0, .ref 69), (1, .int (nI a)), (2, .int (nI n)), (4, .int (nI e)), (5, .int be), (6, .int (nI j))], [.int ((bg3.1 (5 + e)) ||| (nI j)), .int (nI (5 + e)), .ref 77])) (h' := zH (zb (zb (zb (zb (zb (zb v 68 (upd (upd (upd (v 68) 0 0) 11 0) 26 (bg3.2.1))) 76 bg3.1) 79 bg3.2.2.2.2.2) 80 bg3.2.2.1) 81 bg3.2.2.2.1) 82 bg3.2.2.2.2.1) w t) rfl ?_
          refine zk_T.ob (f' := (144, [(0, .ref 69), (1, .int (nI a)), (2, .int (nI n)), (4, .int (nI e)), (5, .int be), (6, .int (nI j))], [])) (h' := zH (zb (zb (zb (zb (zb (zb v 68 (upd (upd (upd (v 68) 0 0) 11 0) 26 (bg3.2.1))) 76 (upd bg3.1 (nI (5 + e)).toNatClampNeg ((bg3.1 (5 + e)) ||| (nI j)))) 79 bg3.2.2.2.2.2) 80 bg3.2.2.1) 81 bg3.2.2.2.1) 82 bg3.2.2.2.2.1) w t) rfl (by first | exact zk_inN (by omega) (by decide) | decide) ?_
          rw [nI_clamp (show (5 + e) < 2 ^ 31 by omega)]
          refine zk_T.adv 2 (f' := (146, [(0, .ref 69), (1, .int (nI a)), (2, .int (nI n)), (4, .int (nI e)), (5, .int be), (6, .int (nI j))], [.int (nI n), .ref 69])) (h' := zH (zb (zb (zb (zb (zb (zb v 68 (upd (upd (upd (v 68) 0 0) 11 0) 26 (bg3.2.1))) 76 (upd bg3.1 (5 + e) ((bg3.1 (5 + e)) ||| (nI j)))) 79 bg3.2.2.2.2.2) 80 bg3.2.2.1) 81 bg3.2.2.2.1) 82 bg3.2.2.2.2.1) w t) rfl ?_
          refine zk_T.cl (v := none) (h' := zH (zb (zb (zb (zb (zb (zb v 68 (upd (upd (upd (v 68) 0 0) 11 0) 26 ((zr_mgo n D Gn (v 71) bg3.2.2.2.2.2 (upd bg3.1 (5 + e) ((bg3.1 (5 + e)) ||| (nI j))) bg3.2.1 bg3.2.2.1 bg3.2.2.2.1 bg3.2.2.2.2.1).2.1))) 76 ((zr_mgo n D Gn (v 71) bg3.2.2.2.2.2 (upd bg3.1 (5 + e) ((bg3.1 (5 + e)) ||| (nI j))) bg3.2.1 bg3.2.2.1 bg3.2.2.2.1 bg3.2.2.2.2.1).1)) 79 bg3.2.2.2.2.2) 80 ((zr_mgo n D Gn (v 71) bg3.2.2.2.2.2 (upd bg3.1 (5 + e) ((bg3.1 (5 + e)) ||| (nI j))) bg3.2.1 bg3.2.2.1 bg3.2.2.2.1 bg3.2.2.2.2.1).2.2.1)) 81 ((zr_mgo n D Gn (v 71) bg3.2.2.2.2.2 (upd bg3.1 (5 + e) ((bg3.1 (5 + e)) ||| (nI j))) bg3.2.1 bg3.2.2.1 bg3.2.2.2.1 bg3.2.2.2.2.1).2.2.2.1)) 82 ((zr_mgo n D Gn (v 71) bg3.2.2.2.2.2 (upd bg3.1 (5 + e) ((bg3.1 (5 + e)) ||| (nI j))) bg3.2.1 bg3.2.2.1 bg3.2.2.2.1 bg3.2.2.2.2.1).2.2.2.2)) w t) rfl (zs_mgoOn (v := (zb (zb (zb (zb (zb (zb v 68 (upd (upd (upd (v 68) 0 0) 11 0) 26 (bg3.2.1))) 76 (upd bg3.1 (5 + e) ((bg3.1 (5 + e)) ||| (nI j)))) 79 bg3.2.2.2.2.2) 80 bg3.2.2.1) 81 bg3.2.2.2.1) 82 bg3.2.2.2.2.1)) n (by omega) D hD h8 Gn hG h4 hev (zk_lieT (by rw [hbg3]; exact zr_mbegin_lie (row := row) (lt := lt) (lw := lw) (oo := oo) (slp := slp) hli h4) h4 he _)) ?_
          show zk_T zk_mt zk_ex Ls xs zm_240 (149, [(0, .ref 69), (1, .int (nI a)), (2, .int (nI n)), (4, .int (nI e)), (5, .int be), (6, .int (nI j))], []) (zH (zb (zb (zb (zb (zb (zb v 68 (upd (upd (upd (v 68) 0 0) 11 0) 26 ((zr_mgo n D Gn (v 71) bg3.2.2.2.2.2 (upd bg3.1 (5 + e) ((bg3.1 (5 + e)) ||| (nI j))) bg3.2.1 bg3.2.2.1 bg3.2.2.2.1 bg3.2.2.2.2.1).2.1))) 76 ((zr_mgo n D Gn (v 71) bg3.2.2.2.2.2 (upd bg3.1 (5 + e) ((bg3.1 (5 + e)) ||| (nI j))) bg3.2.1 bg3.2.2.1 bg3.2.2.2.1 bg3.2.2.2.2.1).1)) 79 bg3.2.2.2.2.2) 80 ((zr_mgo n D Gn (v 71) bg3.2.2.2.2.2 (upd bg3.1 (5 + e) ((bg3.1 (5 + e)) ||| (nI j))) bg3.2.1 bg3.2.2.1 bg3.2.2.2.1 bg3.2.2.2.2.1).2.2.1)) 81 ((zr_mgo n D Gn (v 71) bg3.2.2.2.2.2 (upd bg3.1 (5 + e) ((bg3.1 (5 + e)) ||| (nI j))) bg3.2.1 bg3.2.2.1 bg3.2.2.2.1 bg3.2.2.2.2.1).2.2.2.1)) 82 ((zr_mgo n D Gn (v 71) bg3.2.2.2.2.2 (upd bg3.1 (5 + e) ((bg3.1 (5 + e)) ||| (nI j))) bg3.2.1 bg3.2.2.1 bg3.2.2.2.1 bg3.2.2.2.2.1).2.2.2.2)) w t) _
          obtain ⟨bg4, hbg4⟩ : ∃ z, z = (zr_mgo n D Gn (v 71) bg3.2.2.2.2.2 (upd bg3.1 (5 + e) ((bg3.1 (5 + e)) ||| (nI j))) bg3.2.1 bg3.2.2.1 bg3.2.2.2.1 bg3.2.2.2.2.1) := ⟨_, rfl⟩
          rw [← hbg4]
          show zk_T zk_mt zk_ex Ls xs zm_240 (149, [(0, .ref 69), (1, .int (nI a)), (2, .int (nI n)), (4, .int (nI e)), (5, .int be), (6, .int (nI j))], []) (zH (zb (zb (zb (zb (zb (zb v 68 (upd (upd (upd (v 68) 0 0) 11 0) 26 (bg4.2.1))) 76 bg4.1) 79 bg3.2.2.2.2.2) 80 bg4.2.2.1) 81 bg4.2.2.2.1) 82 bg4.2.2.2.2) w t) _
          refine zk_T.adv 3 (f' := (155, [(0, .ref 69), (1, .int (nI a)), (2, .int (nI n)), (4, .int (nI e)), (5, .int be), (6, .int (nI j))], [.int 14, .ref 77])) (h' := zH (zb (zb (zb (zb (zb (zb v 68 (upd (upd (upd (v 68) 0 0) 11 0) 26 (bg4.2.1))) 76 bg4.1) 79 bg3.2.2.2.2.2) 80 bg4.2.2.1) 81 bg4.2.2.2.1) 82 bg4.2.2.2.2) w t) rfl ?_
          refine zk_T.ob (f' := (156, [(0, .ref 69), (1, .int (nI a)), (2, .int (nI n)), (4, .int (nI e)), (5, .int be), (6, .int (nI j))], [.int (bg4.1 (14 : Int32).toNatClampNeg)])) (h' := zH (zb (zb (zb (zb (zb (zb v 68 (upd (upd (upd (v 68) 0 0) 11 0) 26 (bg4.2.1))) 76 bg4.1) 79 bg3.2.2.2.2.2) 80 bg4.2.2.1) 81 bg4.2.2.2.1) 82 bg4.2.2.2.2) w t) rfl rfl ?_
          show zk_T zk_mt zk_ex Ls xs zm_240 (156, [(0, .ref 69), (1, .int (nI a)), (2, .int (nI n)), (4, .int (nI e)), (5, .int be), (6, .int (nI j))], [.int (bg4.1 14)]) (zH (zb (zb (zb (zb (zb (zb v 68 (upd (upd (upd (v 68) 0 0) 11 0) 26 (bg4.2.1))) 76 bg4.1) 79 bg3.2.2.2.2.2) 80 bg4.2.2.1) 81 bg4.2.2.2.1) 82 bg4.2.2.2.2) w t) _
          refine zk_T.adv 1 (f' := (157, [(0, .ref 69), (1, .int (nI a)), (2, .int (nI n)), (4, .int (nI e)), (5, .int be), (6, .int (nI j))], [.int (nI a), .int (bg4.1 14)])) (h' := zH (zb (zb (zb (zb (zb (zb v 68 (upd (upd (upd (v 68) 0 0) 11 0) 26 (bg4.2.1))) 76 bg4.1) 79 bg3.2.2.2.2.2) 80 bg4.2.2.1) 81 bg4.2.2.2.1) 82 bg4.2.2.2.2) w t) rfl ?_
          refine zk_T.cl (v := some (.int (zr_mhasBit (bg4.1 14) (nI a)))) (h' := zH (zb (zb (zb (zb (zb (zb v 68 (upd (upd (upd (v 68) 0 0) 11 0) 26 (bg4.2.1))) 76 bg4.1) 79 bg3.2.2.2.2.2) 80 bg4.2.2.1) 81 bg4.2.2.2.1) 82 bg4.2.2.2.2) w t) rfl (zs_mhasBit (bg4.1 14) (nI a)) ?_
          show zk_T zk_mt zk_ex Ls xs zm_240 (160, [(0, .ref 69), (1, .int (nI a)), (2, .int (nI n)), (4, .int (nI e)), (5, .int be), (6, .int (nI j))], [.int (zr_mhasBit (bg4.1 14) (nI a))]) (zH (zb (zb (zb (zb (zb (zb v 68 (upd (upd (upd (v 68) 0 0) 11 0) 26 (bg4.2.1))) 76 bg4.1) 79 bg3.2.2.2.2.2) 80 bg4.2.2.1) 81 bg4.2.2.2.1) 82 bg4.2.2.2.2) w t) _
          refine zk_T.br (f1 := (163, [(0, .ref 69), (1, .int (nI a)), (2, .int (nI n)), (4, .int (nI e)), (5, .int be), (6, .int (nI j))], [])) (f2 := (167, [(0, .ref 69), (1, .int (nI a)), (2, .int (nI n)), (4, .int (nI e)), (5, .int be), (6, .int (nI j))], [])) rfl (fun c6 => ?_) (fun c6 => ?_)
          · have c6 : (zr_mhasBit (bg4.1 14) (nI a)) = 0 := of_decide_eq_true c6
            refine zk_T.adv 4 (f' := (77, [(0, .ref 69), (1, .int (nI a)), (2, .int (nI n)), (4, .int (nI e)), (5, .int (nI j)), (6, .int ((nI j) + 1))], [])) (h' := zH (zb (zb (zb (zb (zb (zb v 68 (upd (upd (upd (v 68) 0 0) 11 0) 26 (bg4.2.1))) 76 bg4.1) 79 bg3.2.2.2.2.2) 80 bg4.2.2.1) 81 bg4.2.2.2.1) 82 bg4.2.2.2.2) w t) rfl ?_
            subst hbg4
            subst hbg3
            rw [nI_1]
            simp only [zl_mbesG, if_pos c2, if_neg c3, if_pos c5, if_pos c6] at hk
            exact hk
          · have c6 : ¬ ((zr_mhasBit (bg4.1 14) (nI a)) = 0) := of_decide_eq_false c6
            refine zk_T.adv 2 (f' := (77, [(0, .ref 69), (1, .int (nI a)), (2, .int (nI n)), (4, .int (nI e)), (5, .int be), (6, .int ((nI j) + 1))], [])) (h' := zH (zb (zb (zb (zb (zb (zb v 68 (upd (upd (upd (v 68) 0 0) 11 0) 26 (bg4.2.1))) 76 bg4.1) 79 bg3.2.2.2.2.2) 80 bg4.2.2.1) 81 bg4.2.2.2.1) 82 bg4.2.2.2.2) w t) rfl ?_
            subst hbg4
            subst hbg3
            rw [nI_1]
            simp only [zl_mbesG, if_pos c2, if_neg c3, if_pos c5, if_neg c6] at hk
            exact hk
        · have c5 : ¬ ((zr_mones (nI j)) < (zr_mones be)) := of_decide_eq_false c5
          refine zk_T.adv 3 (f' := (77, [(0, .ref 69), (1, .int (nI a)), (2, .int (nI n)), (4, .int (nI e)), (5, .int be), (6, .int ((nI j) + 1))], [])) (h' := zH (zb (zb (zb (zb (zb (zb v 68 (upd (upd (upd (v 68) 0 0) 11 0) 26 ou)) 76 row) 79 slp) 80 lt) 81 lw) 82 oo) w t) rfl ?_
          rw [nI_1]
          simp only [zl_mbesG, if_pos c2, if_neg c3, if_neg c5] at hk
          exact hk
    · have c2 : ¬ (((nI j) &&& (v 75 (5 + e))) = 0) := of_decide_eq_false c2
      refine zk_T.adv 2 (f' := (77, [(0, .ref 69), (1, .int (nI a)), (2, .int (nI n)), (4, .int (nI e)), (5, .int be), (6, .int ((nI j) + 1))], [])) (h' := zH (zb (zb (zb (zb (zb (zb v 68 (upd (upd (upd (v 68) 0 0) 11 0) 26 ou)) 76 row) 79 slp) 80 lt) 81 lw) 82 oo) w t) rfl ?_
      rw [nI_1]
      simp only [zl_mbesG, if_neg c2] at hk
      exact hk
  · obtain ⟨be, row, ou, lt, lw, oo, slp⟩ := s
    show zk_T zk_mt zk_ex Ls xs zm_240 (77, [(0, .ref 69), (1, .int (nI a)), (2, .int (nI n)), (4, .int (nI e)), (5, .int be), (6, .int (nI (0 + N)))], []) (zH (zb (zb (zb (zb (zb (zb v 68 (upd (upd (upd (v 68) 0 0) 11 0) 26 ou)) 76 row) 79 slp) 80 lt) 81 lw) 82 oo) w t) q
    refine zk_T.adv 5 (f' := (85, [(0, .ref 69), (1, .int (nI a)), (2, .int (nI n)), (4, .int (nI e)), (5, .int be), (6, .int (nI (0 + N)))], [.int 1, .ref 72, .int 1, .int (nI (0 + N))])) (h' := zH (zb (zb (zb (zb (zb (zb v 68 (upd (upd (upd (v 68) 0 0) 11 0) 26 ou)) 76 row) 79 slp) 80 lt) 81 lw) 82 oo) w t) rfl ?_
    refine zk_T.ob (f' := (86, [(0, .ref 69), (1, .int (nI a)), (2, .int (nI n)), (4, .int (nI e)), (5, .int be), (6, .int (nI (0 + N)))], [.int (v 71 (1 : Int32).toNatClampNeg), .int 1, .int (nI (0 + N))])) (h' := zH (zb (zb (zb (zb (zb (zb v 68 (upd (upd (upd (v 68) 0 0) 11 0) 26 ou)) 76 row) 79 slp) 80 lt) 81 lw) 82 oo) w t) rfl rfl ?_
    show zk_T zk_mt zk_ex Ls xs zm_240 (86, [(0, .ref 69), (1, .int (nI a)), (2, .int (nI n)), (4, .int (nI e)), (5, .int be), (6, .int (nI (0 + N)))], [.int (v 71 1), .int 1, .int (nI (0 + N))]) (zH (zb (zb (zb (zb (zb (zb v 68 (upd (upd (upd (v 68) 0 0) 11 0) 26 ou)) 76 row) 79 slp) 80 lt) 81 lw) 82 oo) w t) _
    rw [hD]
    refine zk_T.adv 1 (f' := (87, [(0, .ref 69), (1, .int (nI a)), (2, .int (nI n)), (4, .int (nI e)), (5, .int be), (6, .int (nI (0 + N)))], [.int ((1 : Int32) <<< ((nI D) &&& 31)), .int (nI (0 + N))])) (h' := zH (zb (zb (zb (zb (zb (zb v 68 (upd (upd (upd (v 68) 0 0) 11 0) 26 ou)) 76 row) 79 slp) 80 lt) 81 lw) 82 oo) w t) rfl ?_
    rw [show (1 : Int32) <<< ((nI D) &&& 31) = nI N from (by rw [zk_shl1 D (by omega), hN])]
    refine zk_T.br (f1 := (173, [(0, .ref 69), (1, .int (nI a)), (2, .int (nI n)), (4, .int (nI e)), (5, .int be), (6, .int (nI (0 + N)))], [])) (f2 := (90, [(0, .ref 69), (1, .int (nI a)), (2, .int (nI n)), (4, .int (nI e)), (5, .int be), (6, .int (nI (0 + N)))], [])) rfl (fun c1 => ?_) (fun c1 => absurd (by rw [Nat.zero_add]; exact nI_le (Nat.le_refl _) (by omega)) (of_decide_eq_false c1))
    exact hk
  · exact trivial
/-- BasketKeepModel.besides -/
theorem zM_besides_t (x n : Int32) (hg : zr_misX (v 68 14) (v 71 3) x = 0) : zk_Cr zk_mt zk_ex Ls xs 240 [.ref 69, .int x, .int n] (zH v w t) (some (.int (-1)), zH (zb v 68 (upd (upd (v 68) 0 0) 11 1)) w t) := by
  refine zk_Cr.of (K := zm_240) rfl rfl rfl ?_
  show zk_T zk_mt zk_ex Ls xs zm_240 (0, [(0, .ref 69), (1, .int x), (2, .int n)], []) (zH v w t) _
  refine zk_T.adv 1 (f' := (1, [(0, .ref 69), (1, .int x), (2, .int n)], [.ref 69])) (h' := zH v w t) rfl ?_
  refine zk_T.cl (v := none) (h' := zH (zb v 68 (upd (upd (v 68) 0 0) 11 0)) w t) rfl (zs_manew (v := v) (w := w)) ?_
  show zk_T zk_mt zk_ex Ls xs zm_240 (4, [(0, .ref 69), (1, .int x), (2, .int n)], []) (zH (zb v 68 (upd (upd (v 68) 0 0) 11 0)) w t) _
  refine zk_T.adv 3 (f' := (7, [(0, .ref 69), (1, .int x), (2, .int n)], [.int x, .ref 69, .ref 69])) (h' := zH (zb v 68 (upd (upd (v 68) 0 0) 11 0)) w t) rfl ?_
  refine zk_T.cl (v := some (.int 0)) (h' := zH (zb v 68 (upd (upd (v 68) 0 0) 11 0)) w t) rfl (by have ee_ : zk_Cr zk_mt zk_ex Ls xs 117 [.ref 69, .int x] (zH (zb v 68 (upd (upd (v 68) 0 0) 11 0)) w t) (some (.int (zr_misX (v 68 14) (v 71 3) x)), zH (zb v 68 (upd (upd (v 68) 0 0) 11 0)) w t) := zs_misGood (v := (zb v 68 (upd (upd (v 68) 0 0) 11 0))) (w := w) x; rw [show (zr_misX (v 68 14) (v 71 3) x) = 0 from hg] at ee_; exact ee_) ?_
  show zk_T zk_mt zk_ex Ls xs zm_240 (10, [(0, .ref 69), (1, .int x), (2, .int n)], [.int 0, .ref 69]) (zH (zb v 68 (upd (upd (v 68) 0 0) 11 0)) w t) _
  refine zk_T.adv 1 (f' := (11, [(0, .ref 69), (1, .int x), (2, .int n)], [.int n, .int 0, .ref 69])) (h' := zH (zb v 68 (upd (upd (v 68) 0 0) 11 0)) w t) rfl ?_
  refine zk_T.cl (v := some (.int 1)) (h' := zH (zb v 68 (upd (upd (v 68) 0 0) 11 0)) w t) rfl (zs_maheadWhy (v := (zb v 68 (upd (upd (v 68) 0 0) 11 0))) (w := w) 0 n) ?_
  show zk_T zk_mt zk_ex Ls xs zm_240 (14, [(0, .ref 69), (1, .int x), (2, .int n)], [.int 1]) (zH (zb v 68 (upd (upd (v 68) 0 0) 11 0)) w t) _
  refine zk_T.adv 2 (f' := (16, [(0, .ref 69), (1, .int x), (2, .int n), (3, .int 1)], [.int 1])) (h' := zH (zb v 68 (upd (upd (v 68) 0 0) 11 0)) w t) rfl ?_
  refine zk_T.br (f1 := (19, [(0, .ref 69), (1, .int x), (2, .int n), (3, .int 1)], [])) (f2 := (47, [(0, .ref 69), (1, .int x), (2, .int n), (3, .int 1)], [])) rfl (fun c1 => absurd (of_decide_eq_true c1) (by decide)) (fun c1 => ?_)
  refine zk_T.adv 1 (f' := (48, [(0, .ref 69), (1, .int x), (2, .int n), (3, .int 1)], [.int 1])) (h' := zH (zb v 68 (upd (upd (v 68) 0 0) 11 0)) w t) rfl ?_
  refine zk_T.br (f1 := (57, [(0, .ref 69), (1, .int x), (2, .int n), (3, .int 1)], [])) (f2 := (51, [(0, .ref 69), (1, .int x), (2, .int n), (3, .int 1)], [])) rfl (fun c2 => absurd (of_decide_eq_true c2) (by decide)) (fun c2 => ?_)
  refine zk_T.adv 2 (f' := (53, [(0, .ref 69), (1, .int x), (2, .int n), (3, .int 1)], [.int 1, .ref 69])) (h' := zH (zb v 68 (upd (upd (v 68) 0 0) 11 0)) w t) rfl ?_
  refine zk_T.cl (v := some (.int (-1))) (h' := zH (zb v 68 (upd (upd (v 68) 0 0) 11 1)) w t) rfl (zs_mno (v := (zb v 68 (upd (upd (v 68) 0 0) 11 0))) (w := w) 1) ?_
  show zk_T zk_mt zk_ex Ls xs zm_240 (56, [(0, .ref 69), (1, .int x), (2, .int n), (3, .int 1)], [.int (-1)]) (zH (zb v 68 (upd (upd (v 68) 0 0) 11 1)) w t) _
  exact zk_T.rt rfl rfl (by rfl)
/-- BasketKeepModel.besides -/
theorem zM_besides_o (z x : Int32) (hg : zr_misX (v 68 14) (v 71 3) z = 1) (hw : zr_maheadWhy 1 x = 2) : zk_Cr zk_mt zk_ex Ls xs 240 [.ref 69, .int z, .int x] (zH v w t) (some (.int (-1)), zH (zb v 68 (upd (upd (v 68) 0 0) 11 2)) w t) := by
  refine zk_Cr.of (K := zm_240) rfl rfl rfl ?_
  show zk_T zk_mt zk_ex Ls xs zm_240 (0, [(0, .ref 69), (1, .int z), (2, .int x)], []) (zH v w t) _
  refine zk_T.adv 1 (f' := (1, [(0, .ref 69), (1, .int z), (2, .int x)], [.ref 69])) (h' := zH v w t) rfl ?_
  refine zk_T.cl (v := none) (h' := zH (zb v 68 (upd (upd (v 68) 0 0) 11 0)) w t) rfl (zs_manew (v := v) (w := w)) ?_
  show zk_T zk_mt zk_ex Ls xs zm_240 (4, [(0, .ref 69), (1, .int z), (2, .int x)], []) (zH (zb v 68 (upd (upd (v 68) 0 0) 11 0)) w t) _
  refine zk_T.adv 3 (f' := (7, [(0, .ref 69), (1, .int z), (2, .int x)], [.int z, .ref 69, .ref 69])) (h' := zH (zb v 68 (upd (upd (v 68) 0 0) 11 0)) w t) rfl ?_
  refine zk_T.cl (v := some (.int 1)) (h' := zH (zb v 68 (upd (upd (v 68) 0 0) 11 0)) w t) rfl (by have ee_ : zk_Cr zk_mt zk_ex Ls xs 117 [.ref 69, .int z] (zH (zb v 68 (upd (upd (v 68) 0 0) 11 0)) w t) (some (.int (zr_misX (v 68 14) (v 71 3) z)), zH (zb v 68 (upd (upd (v 68) 0 0) 11 0)) w t) := zs_misGood (v := (zb v 68 (upd (upd (v 68) 0 0) 11 0))) (w := w) z; rw [show (zr_misX (v 68 14) (v 71 3) z) = 1 from hg] at ee_; exact ee_) ?_
  show zk_T zk_mt zk_ex Ls xs zm_240 (10, [(0, .ref 69), (1, .int z), (2, .int x)], [.int 1, .ref 69]) (zH (zb v 68 (upd (upd (v 68) 0 0) 11 0)) w t) _
  refine zk_T.adv 1 (f' := (11, [(0, .ref 69), (1, .int z), (2, .int x)], [.int x, .int 1, .ref 69])) (h' := zH (zb v 68 (upd (upd (v 68) 0 0) 11 0)) w t) rfl ?_
  refine zk_T.cl (v := some (.int 2)) (h' := zH (zb v 68 (upd (upd (v 68) 0 0) 11 0)) w t) rfl (by have ee_ : zk_Cr zk_mt zk_ex Ls xs 108 [.ref 69, .int 1, .int x] (zH (zb v 68 (upd (upd (v 68) 0 0) 11 0)) w t) (some (.int (zr_maheadWhy 1 x)), zH (zb v 68 (upd (upd (v 68) 0 0) 11 0)) w t) := zs_maheadWhy (v := (zb v 68 (upd (upd (v 68) 0 0) 11 0))) (w := w) 1 x; rw [show (zr_maheadWhy 1 x) = 2 from hw] at ee_; exact ee_) ?_
  show zk_T zk_mt zk_ex Ls xs zm_240 (14, [(0, .ref 69), (1, .int z), (2, .int x)], [.int 2]) (zH (zb v 68 (upd (upd (v 68) 0 0) 11 0)) w t) _
  refine zk_T.adv 2 (f' := (16, [(0, .ref 69), (1, .int z), (2, .int x), (3, .int 2)], [.int 2])) (h' := zH (zb v 68 (upd (upd (v 68) 0 0) 11 0)) w t) rfl ?_
  refine zk_T.br (f1 := (19, [(0, .ref 69), (1, .int z), (2, .int x), (3, .int 2)], [])) (f2 := (47, [(0, .ref 69), (1, .int z), (2, .int x), (3, .int 2)], [])) rfl (fun c1 => absurd (of_decide_eq_true c1) (by decide)) (fun c1 => ?_)
  refine zk_T.adv 1 (f' := (48, [(0, .ref 69), (1, .int z), (2, .int x), (3, .int 2)], [.int 2])) (h' := zH (zb v 68 (upd (upd (v 68) 0 0) 11 0)) w t) rfl ?_
  refine zk_T.br (f1 := (57, [(0, .ref 69), (1, .int z), (2, .int x), (3, .int 2)], [])) (f2 := (51, [(0, .ref 69), (1, .int z), (2, .int x), (3, .int 2)], [])) rfl (fun c2 => absurd (of_decide_eq_true c2) (by decide)) (fun c2 => ?_)
  refine zk_T.adv 2 (f' := (53, [(0, .ref 69), (1, .int z), (2, .int x), (3, .int 2)], [.int 2, .ref 69])) (h' := zH (zb v 68 (upd (upd (v 68) 0 0) 11 0)) w t) rfl ?_
  refine zk_T.cl (v := some (.int (-1))) (h' := zH (zb v 68 (upd (upd (v 68) 0 0) 11 2)) w t) rfl (zs_mno (v := (zb v 68 (upd (upd (v 68) 0 0) 11 0))) (w := w) 2) ?_
  show zk_T zk_mt zk_ex Ls xs zm_240 (56, [(0, .ref 69), (1, .int z), (2, .int x), (3, .int 2)], [.int (-1)]) (zH (zb v 68 (upd (upd (v 68) 0 0) 11 2)) w t) _
  exact zk_T.rt rfl rfl (by rfl)
/-- BasketKeepModel.besides -/
theorem zM_besides_5a (a : Nat) (ha : a < 4) (hg : zr_misX (v 68 14) (v 71 3) (nI a) = 1) (n : Nat) (hn : n ≤ 60) (hB : v 75 (10 + a) = 0) : zk_Cr zk_mt zk_ex Ls xs 240 [.ref 69, .int (nI a), .int (nI n)] (zH v w t) (some (.int (-1)), zH (zb v 68 (upd (upd (v 68) 0 0) 11 5)) w t) := by
  refine zk_Cr.of (K := zm_240) rfl rfl rfl ?_
  show zk_T zk_mt zk_ex Ls xs zm_240 (0, [(0, .ref 69), (1, .int (nI a)), (2, .int (nI n))], []) (zH v w t) _
  refine zk_T.adv 1 (f' := (1, [(0, .ref 69), (1, .int (nI a)), (2, .int (nI n))], [.ref 69])) (h' := zH v w t) rfl ?_
  refine zk_T.cl (v := none) (h' := zH (zb v 68 (upd (upd (v 68) 0 0) 11 0)) w t) rfl (zs_manew (v := v) (w := w)) ?_
  show zk_T zk_mt zk_ex Ls xs zm_240 (4, [(0, .ref 69), (1, .int (nI a)), (2, .int (nI n))], []) (zH (zb v 68 (upd (upd (v 68) 0 0) 11 0)) w t) _
  refine zk_T.adv 3 (f' := (7, [(0, .ref 69), (1, .int (nI a)), (2, .int (nI n))], [.int (nI a), .ref 69, .ref 69])) (h' := zH (zb v 68 (upd (upd (v 68) 0 0) 11 0)) w t) rfl ?_
  refine zk_T.cl (v := some (.int 1)) (h' := zH (zb v 68 (upd (upd (v 68) 0 0) 11 0)) w t) rfl (by have ee_ : zk_Cr zk_mt zk_ex Ls xs 117 [.ref 69, .int (nI a)] (zH (zb v 68 (upd (upd (v 68) 0 0) 11 0)) w t) (some (.int (zr_misX (v 68 14) (v 71 3) (nI a))), zH (zb v 68 (upd (upd (v 68) 0 0) 11 0)) w t) := zs_misGood (v := (zb v 68 (upd (upd (v 68) 0 0) 11 0))) (w := w) (nI a); rw [show (zr_misX (v 68 14) (v 71 3) (nI a)) = 1 from hg] at ee_; exact ee_) ?_
  show zk_T zk_mt zk_ex Ls xs zm_240 (10, [(0, .ref 69), (1, .int (nI a)), (2, .int (nI n))], [.int 1, .ref 69]) (zH (zb v 68 (upd (upd (v 68) 0 0) 11 0)) w t) _
  refine zk_T.adv 1 (f' := (11, [(0, .ref 69), (1, .int (nI a)), (2, .int (nI n))], [.int (nI n), .int 1, .ref 69])) (h' := zH (zb v 68 (upd (upd (v 68) 0 0) 11 0)) w t) rfl ?_
  refine zk_T.cl (v := some (.int 0)) (h' := zH (zb v 68 (upd (upd (v 68) 0 0) 11 0)) w t) rfl (by have ee_ : zk_Cr zk_mt zk_ex Ls xs 108 [.ref 69, .int 1, .int (nI n)] (zH (zb v 68 (upd (upd (v 68) 0 0) 11 0)) w t) (some (.int (zr_maheadWhy 1 (nI n))), zH (zb v 68 (upd (upd (v 68) 0 0) 11 0)) w t) := zs_maheadWhy (v := (zb v 68 (upd (upd (v 68) 0 0) 11 0))) (w := w) 1 (nI n); rw [show (zr_maheadWhy 1 (nI n)) = 0 from (zk_ah1 n hn)] at ee_; exact ee_) ?_
  show zk_T zk_mt zk_ex Ls xs zm_240 (14, [(0, .ref 69), (1, .int (nI a)), (2, .int (nI n))], [.int 0]) (zH (zb v 68 (upd (upd (v 68) 0 0) 11 0)) w t) _
  refine zk_T.adv 2 (f' := (16, [(0, .ref 69), (1, .int (nI a)), (2, .int (nI n)), (3, .int 0)], [.int 0])) (h' := zH (zb v 68 (upd (upd (v 68) 0 0) 11 0)) w t) rfl ?_
  refine zk_T.br (f1 := (19, [(0, .ref 69), (1, .int (nI a)), (2, .int (nI n)), (3, .int 0)], [])) (f2 := (47, [(0, .ref 69), (1, .int (nI a)), (2, .int (nI n)), (3, .int 0)], [])) rfl (fun c1 => ?_) (fun c1 => absurd (by decide) (of_decide_eq_false c1))
  refine zk_T.adv 5 (f' := (27, [(0, .ref 69), (1, .int (nI a)), (2, .int (nI n)), (3, .int 0)], [.int (10 + (nI a)), .ref 76])) (h' := zH (zb v 68 (upd (upd (v 68) 0 0) 11 0)) w t) rfl ?_
  rw [show 10 + (nI a) = nI (10 + a) from nI_add 10 a]
  refine zk_T.ob (f' := (28, [(0, .ref 69), (1, .int (nI a)), (2, .int (nI n)), (3, .int 0)], [.int (v 75 (nI (10 + a)).toNatClampNeg)])) (h' := zH (zb v 68 (upd (upd (v 68) 0 0) 11 0)) w t) rfl (by first | exact zk_inN (by omega) (by decide) | decide) ?_
  rw [nI_clamp (show (10 + a) < 2 ^ 31 by omega)]
  rw [hB]
  refine zk_T.br (f1 := (45, [(0, .ref 69), (1, .int (nI a)), (2, .int (nI n)), (3, .int 0)], [])) (f2 := (31, [(0, .ref 69), (1, .int (nI a)), (2, .int (nI n)), (3, .int 0)], [])) rfl (fun c2 => ?_) (fun c2 => absurd (by decide) (of_decide_eq_false c2))
  refine zk_T.adv 3 (f' := (48, [(0, .ref 69), (1, .int (nI a)), (2, .int (nI n)), (3, .int 5)], [.int 5])) (h' := zH (zb v 68 (upd (upd (v 68) 0 0) 11 0)) w t) rfl ?_
  refine zk_T.br (f1 := (57, [(0, .ref 69), (1, .int (nI a)), (2, .int (nI n)), (3, .int 5)], [])) (f2 := (51, [(0, .ref 69), (1, .int (nI a)), (2, .int (nI n)), (3, .int 5)], [])) rfl (fun c3 => absurd (of_decide_eq_true c3) (by decide)) (fun c3 => ?_)
  refine zk_T.adv 2 (f' := (53, [(0, .ref 69), (1, .int (nI a)), (2, .int (nI n)), (3, .int 5)], [.int 5, .ref 69])) (h' := zH (zb v 68 (upd (upd (v 68) 0 0) 11 0)) w t) rfl ?_
  refine zk_T.cl (v := some (.int (-1))) (h' := zH (zb v 68 (upd (upd (v 68) 0 0) 11 5)) w t) rfl (zs_mno (v := (zb v 68 (upd (upd (v 68) 0 0) 11 0))) (w := w) 5) ?_
  show zk_T zk_mt zk_ex Ls xs zm_240 (56, [(0, .ref 69), (1, .int (nI a)), (2, .int (nI n)), (3, .int 5)], [.int (-1)]) (zH (zb v 68 (upd (upd (v 68) 0 0) 11 5)) w t) _
  exact zk_T.rt rfl rfl (by rfl)
/-- BasketKeepModel.besides -/
theorem zM_besides_5b (a : Nat) (ha : a < 4) (hg : zr_misX (v 68 14) (v 71 3) (nI a) = 1) (n : Nat) (hn : n ≤ 60) (e : Nat) (he : e < 5) (hI : v 75 (10 + a) = nI (e + 1)) (hlo : zr_mhasBit (v 75 14) (nI a) = 1) : zk_Cr zk_mt zk_ex Ls xs 240 [.ref 69, .int (nI a), .int (nI n)] (zH v w t) (some (.int (-1)), zH (zb v 68 (upd (upd (v 68) 0 0) 11 5)) w t) := by
  refine zk_Cr.of (K := zm_240) rfl rfl rfl ?_
  show zk_T zk_mt zk_ex Ls xs zm_240 (0, [(0, .ref 69), (1, .int (nI a)), (2, .int (nI n))], []) (zH v w t) _
  refine zk_T.adv 1 (f' := (1, [(0, .ref 69), (1, .int (nI a)), (2, .int (nI n))], [.ref 69])) (h' := zH v w t) rfl ?_
  refine zk_T.cl (v := none) (h' := zH (zb v 68 (upd (upd (v 68) 0 0) 11 0)) w t) rfl (zs_manew (v := v) (w := w)) ?_
  show zk_T zk_mt zk_ex Ls xs zm_240 (4, [(0, .ref 69), (1, .int (nI a)), (2, .int (nI n))], []) (zH (zb v 68 (upd (upd (v 68) 0 0) 11 0)) w t) _
  refine zk_T.adv 3 (f' := (7, [(0, .ref 69), (1, .int (nI a)), (2, .int (nI n))], [.int (nI a), .ref 69, .ref 69])) (h' := zH (zb v 68 (upd (upd (v 68) 0 0) 11 0)) w t) rfl ?_
  refine zk_T.cl (v := some (.int 1)) (h' := zH (zb v 68 (upd (upd (v 68) 0 0) 11 0)) w t) rfl (by have ee_ : zk_Cr zk_mt zk_ex Ls xs 117 [.ref 69, .int (nI a)] (zH (zb v 68 (upd (upd (v 68) 0 0) 11 0)) w t) (some (.int (zr_misX (v 68 14) (v 71 3) (nI a))), zH (zb v 68 (upd (upd (v 68) 0 0) 11 0)) w t) := zs_misGood (v := (zb v 68 (upd (upd (v 68) 0 0) 11 0))) (w := w) (nI a); rw [show (zr_misX (v 68 14) (v 71 3) (nI a)) = 1 from hg] at ee_; exact ee_) ?_
  show zk_T zk_mt zk_ex Ls xs zm_240 (10, [(0, .ref 69), (1, .int (nI a)), (2, .int (nI n))], [.int 1, .ref 69]) (zH (zb v 68 (upd (upd (v 68) 0 0) 11 0)) w t) _
  refine zk_T.adv 1 (f' := (11, [(0, .ref 69), (1, .int (nI a)), (2, .int (nI n))], [.int (nI n), .int 1, .ref 69])) (h' := zH (zb v 68 (upd (upd (v 68) 0 0) 11 0)) w t) rfl ?_
  refine zk_T.cl (v := some (.int 0)) (h' := zH (zb v 68 (upd (upd (v 68) 0 0) 11 0)) w t) rfl (by have ee_ : zk_Cr zk_mt zk_ex Ls xs 108 [.ref 69, .int 1, .int (nI n)] (zH (zb v 68 (upd (upd (v 68) 0 0) 11 0)) w t) (some (.int (zr_maheadWhy 1 (nI n))), zH (zb v 68 (upd (upd (v 68) 0 0) 11 0)) w t) := zs_maheadWhy (v := (zb v 68 (upd (upd (v 68) 0 0) 11 0))) (w := w) 1 (nI n); rw [show (zr_maheadWhy 1 (nI n)) = 0 from (zk_ah1 n hn)] at ee_; exact ee_) ?_
  show zk_T zk_mt zk_ex Ls xs zm_240 (14, [(0, .ref 69), (1, .int (nI a)), (2, .int (nI n))], [.int 0]) (zH (zb v 68 (upd (upd (v 68) 0 0) 11 0)) w t) _
  refine zk_T.adv 2 (f' := (16, [(0, .ref 69), (1, .int (nI a)), (2, .int (nI n)), (3, .int 0)], [.int 0])) (h' := zH (zb v 68 (upd (upd (v 68) 0 0) 11 0)) w t) rfl ?_
  refine zk_T.br (f1 := (19, [(0, .ref 69), (1, .int (nI a)), (2, .int (nI n)), (3, .int 0)], [])) (f2 := (47, [(0, .ref 69), (1, .int (nI a)), (2, .int (nI n)), (3, .int 0)], [])) rfl (fun c1 => ?_) (fun c1 => absurd (by decide) (of_decide_eq_false c1))
  refine zk_T.adv 5 (f' := (27, [(0, .ref 69), (1, .int (nI a)), (2, .int (nI n)), (3, .int 0)], [.int (10 + (nI a)), .ref 76])) (h' := zH (zb v 68 (upd (upd (v 68) 0 0) 11 0)) w t) rfl ?_
  rw [show 10 + (nI a) = nI (10 + a) from nI_add 10 a]
  refine zk_T.ob (f' := (28, [(0, .ref 69), (1, .int (nI a)), (2, .int (nI n)), (3, .int 0)], [.int (v 75 (nI (10 + a)).toNatClampNeg)])) (h' := zH (zb v 68 (upd (upd (v 68) 0 0) 11 0)) w t) rfl (by first | exact zk_inN (by omega) (by decide) | decide) ?_
  rw [nI_clamp (show (10 + a) < 2 ^ 31 by omega)]
  rw [hI]
  refine zk_T.br (f1 := (45, [(0, .ref 69), (1, .int (nI a)), (2, .int (nI n)), (3, .int 0)], [])) (f2 := (31, [(0, .ref 69), (1, .int (nI a)), (2, .int (nI n)), (3, .int 0)], [])) rfl (fun c2 => absurd (of_decide_eq_true c2) (nI_ne0 (by omega) (by omega))) (fun c2 => ?_)
  refine zk_T.adv 3 (f' := (37, [(0, .ref 69), (1, .int (nI a)), (2, .int (nI n)), (3, .int 0)], [.int 14, .ref 76])) (h' := zH (zb v 68 (upd (upd (v 68) 0 0) 11 0)) w t) rfl ?_
  refine zk_T.ob (f' := (38, [(0, .ref 69), (1, .int (nI a)), (2, .int (nI n)), (3, .int 0)], [.int (v 75 (14 : Int32).toNatClampNeg)])) (h' := zH (zb v 68 (upd (upd (v 68) 0 0) 11 0)) w t) rfl rfl ?_
  show zk_T zk_mt zk_ex Ls xs zm_240 (38, [(0, .ref 69), (1, .int (nI a)), (2, .int (nI n)), (3, .int 0)], [.int (v 75 14)]) (zH (zb v 68 (upd (upd (v 68) 0 0) 11 0)) w t) _
  refine zk_T.adv 1 (f' := (39, [(0, .ref 69), (1, .int (nI a)), (2, .int (nI n)), (3, .int 0)], [.int (nI a), .int (v 75 14)])) (h' := zH (zb v 68 (upd (upd (v 68) 0 0) 11 0)) w t) rfl ?_
  refine zk_T.cl (v := some (.int 1)) (h' := zH (zb v 68 (upd (upd (v 68) 0 0) 11 0)) w t) rfl (by have ee_ : zk_Cr zk_mt zk_ex Ls xs 49 [.int (v 75 14), .int (nI a)] (zH (zb v 68 (upd (upd (v 68) 0 0) 11 0)) w t) (some (.int (zr_mhasBit (v 75 14) (nI a))), zH (zb v 68 (upd (upd (v 68) 0 0) 11 0)) w t) := zs_mhasBit (v := (zb v 68 (upd (upd (v 68) 0 0) 11 0))) (w := w) (v 75 14) (nI a); rw [show (zr_mhasBit (v 75 14) (nI a)) = 1 from hlo] at ee_; exact ee_) ?_
  show zk_T zk_mt zk_ex Ls xs zm_240 (42, [(0, .ref 69), (1, .int (nI a)), (2, .int (nI n)), (3, .int 0)], [.int 1]) (zH (zb v 68 (upd (upd (v 68) 0 0) 11 0)) w t) _
  refine zk_T.br (f1 := (47, [(0, .ref 69), (1, .int (nI a)), (2, .int (nI n)), (3, .int 0)], [])) (f2 := (45, [(0, .ref 69), (1, .int (nI a)), (2, .int (nI n)), (3, .int 0)], [])) rfl (fun c3 => absurd (of_decide_eq_true c3) (by decide)) (fun c3 => ?_)
  refine zk_T.adv 3 (f' := (48, [(0, .ref 69), (1, .int (nI a)), (2, .int (nI n)), (3, .int 5)], [.int 5])) (h' := zH (zb v 68 (upd (upd (v 68) 0 0) 11 0)) w t) rfl ?_
  refine zk_T.br (f1 := (57, [(0, .ref 69), (1, .int (nI a)), (2, .int (nI n)), (3, .int 5)], [])) (f2 := (51, [(0, .ref 69), (1, .int (nI a)), (2, .int (nI n)), (3, .int 5)], [])) rfl (fun c4 => absurd (of_decide_eq_true c4) (by decide)) (fun c4 => ?_)
  refine zk_T.adv 2 (f' := (53, [(0, .ref 69), (1, .int (nI a)), (2, .int (nI n)), (3, .int 5)], [.int 5, .ref 69])) (h' := zH (zb v 68 (upd (upd (v 68) 0 0) 11 0)) w t) rfl ?_
  refine zk_T.cl (v := some (.int (-1))) (h' := zH (zb v 68 (upd (upd (v 68) 0 0) 11 5)) w t) rfl (zs_mno (v := (zb v 68 (upd (upd (v 68) 0 0) 11 0))) (w := w) 5) ?_
  show zk_T zk_mt zk_ex Ls xs zm_240 (56, [(0, .ref 69), (1, .int (nI a)), (2, .int (nI n)), (3, .int 5)], [.int (-1)]) (zH (zb v 68 (upd (upd (v 68) 0 0) 11 5)) w t) _
  exact zk_T.rt rfl rfl (by rfl)
def zr_mbes (n N D Gn : Nat) (r st : Nat → Int32) (a e : Nat) (row : Nat → Int32) (ou : Int32) (lt lw oo slp : Nat → Int32) : Int32 × (Nat → Int32) × Int32 × (Nat → Int32) × (Nat → Int32) × (Nat → Int32) × (Nat → Int32) × Int32 × Int32 := (((zf (zl_mbesG n D Gn (r) (st) a e) N 0 ((-2), row, ou, lt, lw, oo, slp)).1), (zf (zl_mbesG n D Gn (r) (st) a e) N 0 ((-2), row, ou, lt, lw, oo, slp)).2.1, (zf (zl_mbesG n D Gn (r) (st) a e) N 0 ((-2), row, ou, lt, lw, oo, slp)).2.2.1, (zf (zl_mbesG n D Gn (r) (st) a e) N 0 ((-2), row, ou, lt, lw, oo, slp)).2.2.2.1, (zf (zl_mbesG n D Gn (r) (st) a e) N 0 ((-2), row, ou, lt, lw, oo, slp)).2.2.2.2.1, (zf (zl_mbesG n D Gn (r) (st) a e) N 0 ((-2), row, ou, lt, lw, oo, slp)).2.2.2.2.2.1, (zf (zl_mbesG n D Gn (r) (st) a e) N 0 ((-2), row, ou, lt, lw, oo, slp)).2.2.2.2.2.2, 0, 0)
/-- BasketKeepModel.besides -/
theorem zM_besides_f (a : Nat) (ha : a < 4) (hg : zr_misX (v 68 14) (v 71 3) (nI a) = 1) (n : Nat) (hn : n ≤ 60) (D : Nat) (hD : v 71 1 = nI D) (h8 : D ≤ 8) (Gn : Nat) (hG : v 71 3 = nI Gn) (h4 : Gn ≤ 4) (hev : ∀ d, d < D → ¬ v 71 (7 + 2 * d) = 0) (hli : zk_lie Gn (v 75)) (N : Nat) (hN : 2 ^ D = N) (hN2 : N ≤ 256) (e : Nat) (he : e < 5) (hI : v 75 (10 + a) = nI (e + 1)) (hlo : zr_mhasBit (v 75 14) (nI a) = 0) : zk_Cr zk_mt zk_ex Ls xs 240 [.ref 69, .int (nI a), .int (nI n)] (zH v w t) (some (.int (zr_mbes n N D Gn (v 71) (v 75) a e (v 76) (v 68 26) (v 80) (v 81) (v 82) (v 79)).1), zH (zb (zb (zb (zb (zb (zb v 68 (upd (upd (upd (v 68) 0 ((zr_mbes n N D Gn (v 71) (v 75) a e (v 76) (v 68 26) (v 80) (v 81) (v 82) (v 79)).2.2.2.2.2.2.2.1)) 11 ((zr_mbes n N D Gn (v 71) (v 75) a e (v 76) (v 68 26) (v 80) (v 81) (v 82) (v 79)).2.2.2.2.2.2.2.2)) 26 ((zr_mbes n N D Gn (v 71) (v 75) a e (v 76) (v 68 26) (v 80) (v 81) (v 82) (v 79)).2.2.1))) 76 ((zr_mbes n N D Gn (v 71) (v 75) a e (v 76) (v 68 26) (v 80) (v 81) (v 82) (v 79)).2.1)) 79 ((zr_mbes n N D Gn (v 71) (v 75) a e (v 76) (v 68 26) (v 80) (v 81) (v 82) (v 79)).2.2.2.2.2.2.1)) 80 ((zr_mbes n N D Gn (v 71) (v 75) a e (v 76) (v 68 26) (v 80) (v 81) (v 82) (v 79)).2.2.2.1)) 81 ((zr_mbes n N D Gn (v 71) (v 75) a e (v 76) (v 68 26) (v 80) (v 81) (v 82) (v 79)).2.2.2.2.1)) 82 ((zr_mbes n N D Gn (v 71) (v 75) a e (v 76) (v 68 26) (v 80) (v 81) (v 82) (v 79)).2.2.2.2.2.1)) w t) := by
  refine zk_Cr.of (K := zm_240) rfl rfl rfl ?_
  show zk_T zk_mt zk_ex Ls xs zm_240 (0, [(0, .ref 69), (1, .int (nI a)), (2, .int (nI n))], []) (zH v w t) _
  refine zk_T.adv 1 (f' := (1, [(0, .ref 69), (1, .int (nI a)), (2, .int (nI n))], [.ref 69])) (h' := zH v w t) rfl ?_
  refine zk_T.cl (v := none) (h' := zH (zb v 68 (upd (upd (v 68) 0 0) 11 0)) w t) rfl (zs_manew (v := v) (w := w)) ?_
  show zk_T zk_mt zk_ex Ls xs zm_240 (4, [(0, .ref 69), (1, .int (nI a)), (2, .int (nI n))], []) (zH (zb v 68 (upd (upd (v 68) 0 0) 11 0)) w t) _
  refine zk_T.adv 3 (f' := (7, [(0, .ref 69), (1, .int (nI a)), (2, .int (nI n))], [.int (nI a), .ref 69, .ref 69])) (h' := zH (zb v 68 (upd (upd (v 68) 0 0) 11 0)) w t) rfl ?_
  refine zk_T.cl (v := some (.int 1)) (h' := zH (zb v 68 (upd (upd (v 68) 0 0) 11 0)) w t) rfl (by have ee_ : zk_Cr zk_mt zk_ex Ls xs 117 [.ref 69, .int (nI a)] (zH (zb v 68 (upd (upd (v 68) 0 0) 11 0)) w t) (some (.int (zr_misX (v 68 14) (v 71 3) (nI a))), zH (zb v 68 (upd (upd (v 68) 0 0) 11 0)) w t) := zs_misGood (v := (zb v 68 (upd (upd (v 68) 0 0) 11 0))) (w := w) (nI a); rw [show (zr_misX (v 68 14) (v 71 3) (nI a)) = 1 from hg] at ee_; exact ee_) ?_
  show zk_T zk_mt zk_ex Ls xs zm_240 (10, [(0, .ref 69), (1, .int (nI a)), (2, .int (nI n))], [.int 1, .ref 69]) (zH (zb v 68 (upd (upd (v 68) 0 0) 11 0)) w t) _
  refine zk_T.adv 1 (f' := (11, [(0, .ref 69), (1, .int (nI a)), (2, .int (nI n))], [.int (nI n), .int 1, .ref 69])) (h' := zH (zb v 68 (upd (upd (v 68) 0 0) 11 0)) w t) rfl ?_
  refine zk_T.cl (v := some (.int 0)) (h' := zH (zb v 68 (upd (upd (v 68) 0 0) 11 0)) w t) rfl (by have ee_ : zk_Cr zk_mt zk_ex Ls xs 108 [.ref 69, .int 1, .int (nI n)] (zH (zb v 68 (upd (upd (v 68) 0 0) 11 0)) w t) (some (.int (zr_maheadWhy 1 (nI n))), zH (zb v 68 (upd (upd (v 68) 0 0) 11 0)) w t) := zs_maheadWhy (v := (zb v 68 (upd (upd (v 68) 0 0) 11 0))) (w := w) 1 (nI n); rw [show (zr_maheadWhy 1 (nI n)) = 0 from (zk_ah1 n hn)] at ee_; exact ee_) ?_
  show zk_T zk_mt zk_ex Ls xs zm_240 (14, [(0, .ref 69), (1, .int (nI a)), (2, .int (nI n))], [.int 0]) (zH (zb v 68 (upd (upd (v 68) 0 0) 11 0)) w t) _
  refine zk_T.adv 2 (f' := (16, [(0, .ref 69), (1, .int (nI a)), (2, .int (nI n)), (3, .int 0)], [.int 0])) (h' := zH (zb v 68 (upd (upd (v 68) 0 0) 11 0)) w t) rfl ?_
  refine zk_T.br (f1 := (19, [(0, .ref 69), (1, .int (nI a)), (2, .int (nI n)), (3, .int 0)], [])) (f2 := (47, [(0, .ref 69), (1, .int (nI a)), (2, .int (nI n)), (3, .int 0)], [])) rfl (fun c1 => ?_) (fun c1 => absurd (by decide) (of_decide_eq_false c1))
  refine zk_T.adv 5 (f' := (27, [(0, .ref 69), (1, .int (nI a)), (2, .int (nI n)), (3, .int 0)], [.int (10 + (nI a)), .ref 76])) (h' := zH (zb v 68 (upd (upd (v 68) 0 0) 11 0)) w t) rfl ?_
  rw [show 10 + (nI a) = nI (10 + a) from nI_add 10 a]
  refine zk_T.ob (f' := (28, [(0, .ref 69), (1, .int (nI a)), (2, .int (nI n)), (3, .int 0)], [.int (v 75 (nI (10 + a)).toNatClampNeg)])) (h' := zH (zb v 68 (upd (upd (v 68) 0 0) 11 0)) w t) rfl (by first | exact zk_inN (by omega) (by decide) | decide) ?_
  rw [nI_clamp (show (10 + a) < 2 ^ 31 by omega)]
  rw [hI]
  refine zk_T.br (f1 := (45, [(0, .ref 69), (1, .int (nI a)), (2, .int (nI n)), (3, .int 0)], [])) (f2 := (31, [(0, .ref 69), (1, .int (nI a)), (2, .int (nI n)), (3, .int 0)], [])) rfl (fun c2 => absurd (of_decide_eq_true c2) (nI_ne0 (by omega) (by omega))) (fun c2 => ?_)
  refine zk_T.adv 3 (f' := (37, [(0, .ref 69), (1, .int (nI a)), (2, .int (nI n)), (3, .int 0)], [.int 14, .ref 76])) (h' := zH (zb v 68 (upd (upd (v 68) 0 0) 11 0)) w t) rfl ?_
  refine zk_T.ob (f' := (38, [(0, .ref 69), (1, .int (nI a)), (2, .int (nI n)), (3, .int 0)], [.int (v 75 (14 : Int32).toNatClampNeg)])) (h' := zH (zb v 68 (upd (upd (v 68) 0 0) 11 0)) w t) rfl rfl ?_
  show zk_T zk_mt zk_ex Ls xs zm_240 (38, [(0, .ref 69), (1, .int (nI a)), (2, .int (nI n)), (3, .int 0)], [.int (v 75 14)]) (zH (zb v 68 (upd (upd (v 68) 0 0) 11 0)) w t) _
  refine zk_T.adv 1 (f' := (39, [(0, .ref 69), (1, .int (nI a)), (2, .int (nI n)), (3, .int 0)], [.int (nI a), .int (v 75 14)])) (h' := zH (zb v 68 (upd (upd (v 68) 0 0) 11 0)) w t) rfl ?_
  refine zk_T.cl (v := some (.int 0)) (h' := zH (zb v 68 (upd (upd (v 68) 0 0) 11 0)) w t) rfl (by have ee_ : zk_Cr zk_mt zk_ex Ls xs 49 [.int (v 75 14), .int (nI a)] (zH (zb v 68 (upd (upd (v 68) 0 0) 11 0)) w t) (some (.int (zr_mhasBit (v 75 14) (nI a))), zH (zb v 68 (upd (upd (v 68) 0 0) 11 0)) w t) := zs_mhasBit (v := (zb v 68 (upd (upd (v 68) 0 0) 11 0))) (w := w) (v 75 14) (nI a); rw [show (zr_mhasBit (v 75 14) (nI a)) = 0 from hlo] at ee_; exact ee_) ?_
  show zk_T zk_mt zk_ex Ls xs zm_240 (42, [(0, .ref 69), (1, .int (nI a)), (2, .int (nI n)), (3, .int 0)], [.int 0]) (zH (zb v 68 (upd (upd (v 68) 0 0) 11 0)) w t) _
  refine zk_T.br (f1 := (47, [(0, .ref 69), (1, .int (nI a)), (2, .int (nI n)), (3, .int 0)], [])) (f2 := (45, [(0, .ref 69), (1, .int (nI a)), (2, .int (nI n)), (3, .int 0)], [])) rfl (fun c3 => ?_) (fun c3 => absurd (by decide) (of_decide_eq_false c3))
  refine zk_T.adv 1 (f' := (48, [(0, .ref 69), (1, .int (nI a)), (2, .int (nI n)), (3, .int 0)], [.int 0])) (h' := zH (zb v 68 (upd (upd (v 68) 0 0) 11 0)) w t) rfl ?_
  refine zk_T.br (f1 := (57, [(0, .ref 69), (1, .int (nI a)), (2, .int (nI n)), (3, .int 0)], [])) (f2 := (51, [(0, .ref 69), (1, .int (nI a)), (2, .int (nI n)), (3, .int 0)], [])) rfl (fun c4 => ?_) (fun c4 => absurd (by decide) (of_decide_eq_false c4))
  refine zk_T.adv 5 (f' := (65, [(0, .ref 69), (1, .int (nI a)), (2, .int (nI n)), (3, .int 0)], [.int (10 + (nI a)), .ref 76])) (h' := zH (zb v 68 (upd (upd (v 68) 0 0) 11 0)) w t) rfl ?_
  rw [show 10 + (nI a) = nI (10 + a) from nI_add 10 a]
  refine zk_T.ob (f' := (66, [(0, .ref 69), (1, .int (nI a)), (2, .int (nI n)), (3, .int 0)], [.int (v 75 (nI (10 + a)).toNatClampNeg)])) (h' := zH (zb v 68 (upd (upd (v 68) 0 0) 11 0)) w t) rfl (by first | exact zk_inN (by omega) (by decide) | decide) ?_
  rw [nI_clamp (show (10 + a) < 2 ^ 31 by omega)]
  rw [hI]
  refine zk_T.adv 2 (f' := (68, [(0, .ref 69), (1, .int (nI a)), (2, .int (nI n)), (3, .int 0)], [.int ((nI (e + 1)) - 1)])) (h' := zH (zb v 68 (upd (upd (v 68) 0 0) 11 0)) w t) rfl ?_
  rw [show (nI (e + 1)) - 1 = nI e from nI_pred e]
  refine zk_T.adv 5 (f' := (77, [(0, .ref 69), (1, .int (nI a)), (2, .int (nI n)), (4, .int (nI e)), (5, .int (-2)), (6, .int 0)], [])) (h' := zH (zb v 68 (upd (upd (v 68) 0 0) 11 0)) w t) rfl ?_
  refine zl_mbes (v := v) (w := w) (t := t) D hD h8 Gn hG h4 hev hli N hN hN2 n hn a e ha he ((-2), v 76, (v 68 26), v 80, v 81, v 82, v 79) _ ?_
  show zk_T zk_mt zk_ex Ls xs zm_240 (173, [(0, .ref 69), (1, .int (nI a)), (2, .int (nI n)), (4, .int (nI e)), (5, .int ((zf (zl_mbesG n D Gn (v 71) (v 75) a e) N 0 ((-2), v 76, (v 68 26), v 80, v 81, v 82, v 79)).1)), (6, .int (nI (0 + N)))], []) (zH (zb (zb (zb (zb (zb (zb v 68 (upd (upd (upd (v 68) 0 0) 11 0) 26 ((zf (zl_mbesG n D Gn (v 71) (v 75) a e) N 0 ((-2), v 76, (v 68 26), v 80, v 81, v 82, v 79)).2.2.1))) 76 ((zf (zl_mbesG n D Gn (v 71) (v 75) a e) N 0 ((-2), v 76, (v 68 26), v 80, v 81, v 82, v 79)).2.1)) 79 ((zf (zl_mbesG n D Gn (v 71) (v 75) a e) N 0 ((-2), v 76, (v 68 26), v 80, v 81, v 82, v 79)).2.2.2.2.2.2)) 80 ((zf (zl_mbesG n D Gn (v 71) (v 75) a e) N 0 ((-2), v 76, (v 68 26), v 80, v 81, v 82, v 79)).2.2.2.1)) 81 ((zf (zl_mbesG n D Gn (v 71) (v 75) a e) N 0 ((-2), v 76, (v 68 26), v 80, v 81, v 82, v 79)).2.2.2.2.1)) 82 ((zf (zl_mbesG n D Gn (v 71) (v 75) a e) N 0 ((-2), v 76, (v 68 26), v 80, v 81, v 82, v 79)).2.2.2.2.2.1)) w t) _
  refine zk_T.adv 1 (f' := (175, [(0, .ref 69), (1, .int (nI a)), (2, .int (nI n)), (4, .int (nI e)), (5, .int ((zf (zl_mbesG n D Gn (v 71) (v 75) a e) N 0 ((-2), v 76, (v 68 26), v 80, v 81, v 82, v 79)).1)), (6, .int (nI (0 + N)))], [.int ((zf (zl_mbesG n D Gn (v 71) (v 75) a e) N 0 ((-2), v 76, (v 68 26), v 80, v 81, v 82, v 79)).1)])) (h' := zH (zb (zb (zb (zb (zb (zb v 68 (upd (upd (upd (v 68) 0 0) 11 0) 26 ((zf (zl_mbesG n D Gn (v 71) (v 75) a e) N 0 ((-2), v 76, (v 68 26), v 80, v 81, v 82, v 79)).2.2.1))) 76 ((zf (zl_mbesG n D Gn (v 71) (v 75) a e) N 0 ((-2), v 76, (v 68 26), v 80, v 81, v 82, v 79)).2.1)) 79 ((zf (zl_mbesG n D Gn (v 71) (v 75) a e) N 0 ((-2), v 76, (v 68 26), v 80, v 81, v 82, v 79)).2.2.2.2.2.2)) 80 ((zf (zl_mbesG n D Gn (v 71) (v 75) a e) N 0 ((-2), v 76, (v 68 26), v 80, v 81, v 82, v 79)).2.2.2.1)) 81 ((zf (zl_mbesG n D Gn (v 71) (v 75) a e) N 0 ((-2), v 76, (v 68 26), v 80, v 81, v 82, v 79)).2.2.2.2.1)) 82 ((zf (zl_mbesG n D Gn (v 71) (v 75) a e) N 0 ((-2), v 76, (v 68 26), v 80, v 81, v 82, v 79)).2.2.2.2.2.1)) w t) rfl ?_
  exact zk_T.rt rfl rfl (by simp only [zr_mbes] <;> rfl)
theorem zk_dec2 {a b : Nat} (h : a = b + 1) : nI a + (-1) = nI b := by rw [h, ← Int32.sub_eq_add_neg]; exact nI_pred b
theorem zk_dec1 {a b : Nat} (h : a = b + 1) : nI a - 1 = nI b := by rw [h]; exact nI_pred b
def zl_mdigG (Mn : Nat) (j : Nat) (s : Nat) : Nat := match s with
  | l => (l / (Mn + 1))
theorem zl_mdig (Mn : Nat) (hM : v 71 2 = nI Mn) (h5 : Mn ≤ 5) (Gn : Nat) (hG : v 71 3 = nI Gn) (h4 : Gn ≤ 4) (a : Nat) (ha : a < Gn) : ∀ (s : Nat) (q : Option Value × zk_H), s < 2 ^ 31 → zk_T zk_mt zk_ex Ls xs zm_44 ((fun (s : Nat) => ((35, [(0, .ref 69), (2, .int (nI a)), (3, .int (nI s)), (4, .int (nI (Gn - 1 - (0 + (Gn - 1 - a)))))], []) : zk_F)) (zf (zl_mdigG Mn) (Gn - 1 - a) 0 s)) ((fun (s : Nat) => zH v w t) (zf (zl_mdigG Mn) (Gn - 1 - a) 0 s)) q → zk_T zk_mt zk_ex Ls xs zm_44 (12, [(0, .ref 69), (2, .int (nI a)), (3, .int (nI s)), (4, .int (nI (Gn - 1 - 0)))], []) (zH v w t) q := by
  intro s q hP0 hk
  refine zk_forK (M := zm_44) (fun j (s : Nat) => (12, [(0, .ref 69), (2, .int (nI a)), (3, .int (nI s)), (4, .int (nI (Gn - 1 - j)))], [])) (fun _ (s : Nat) => zH v w t) (zl_mdigG Mn) (fun j (s : Nat) => s < 2 ^ 31) (fun (s : Nat) => (35, [(0, .ref 69), (2, .int (nI a)), (3, .int (nI s)), (4, .int (nI (Gn - 1 - (0 + (Gn - 1 - a)))))], [])) (fun (s : Nat) => zH v w t) ((Gn - 1 - a)) 0 s (fun j s hj1 hj2 hp => Nat.lt_of_le_of_lt (Nat.div_le_self _ _) hp) (fun j s hj1 hj2 hp q hk => ?_) (fun s hp q hk => ?_) ?_ q hk
  · have hz := True.intro
    obtain ⟨l, rfl⟩ : ∃ z, z = s := ⟨_, rfl⟩
    show zk_T zk_mt zk_ex Ls xs zm_44 (12, [(0, .ref 69), (2, .int (nI a)), (3, .int (nI l)), (4, .int (nI (Gn - 1 - j)))], []) (zH v w t) q
    have hp : l < 2 ^ 31 := hp
    refine zk_T.adv 2 (f' := (15, [(0, .ref 69), (2, .int (nI a)), (3, .int (nI l)), (4, .int (nI (Gn - 1 - j)))], [.int (nI a), .int (nI (Gn - 1 - j))])) (h' := zH v w t) rfl ?_
    refine zk_T.br (f1 := (35, [(0, .ref 69), (2, .int (nI a)), (3, .int (nI l)), (4, .int (nI (Gn - 1 - j)))], [])) (f2 := (18, [(0, .ref 69), (2, .int (nI a)), (3, .int (nI l)), (4, .int (nI (Gn - 1 - j)))], [])) rfl (fun c1 => absurd (of_decide_eq_true c1) (nI_ge (show a < Gn - 1 - j by omega) (by omega))) (fun c1 => ?_)
    refine zk_T.adv 4 (f' := (24, [(0, .ref 69), (2, .int (nI a)), (3, .int (nI l)), (4, .int (nI (Gn - 1 - j)))], [.int 2, .ref 72, .int (nI l)])) (h' := zH v w t) rfl ?_
    refine zk_T.ob (f' := (25, [(0, .ref 69), (2, .int (nI a)), (3, .int (nI l)), (4, .int (nI (Gn - 1 - j)))], [.int (v 71 (2 : Int32).toNatClampNeg), .int (nI l)])) (h' := zH v w t) rfl rfl ?_
    show zk_T zk_mt zk_ex Ls xs zm_44 (25, [(0, .ref 69), (2, .int (nI a)), (3, .int (nI l)), (4, .int (nI (Gn - 1 - j)))], [.int (v 71 2), .int (nI l)]) (zH v w t) _
    rw [hM]
    refine zk_T.adv 2 (f' := (27, [(0, .ref 69), (2, .int (nI a)), (3, .int (nI l)), (4, .int (nI (Gn - 1 - j)))], [.int ((nI Mn) + 1), .int (nI l)])) (h' := zH v w t) rfl ?_
    rw [show (nI Mn) + 1 = nI (Mn + 1) from nI_add Mn 1]
    refine zk_T.ob (f' := (28, [(0, .ref 69), (2, .int (nI a)), (3, .int (nI l)), (4, .int (nI (Gn - 1 - j)))], [.int ((nI l) / (nI (Mn + 1)))])) (h' := zH v w t) rfl (decide_eq_true (nI_ne0 (by omega) (by omega))) ?_
    rw [show (nI l) / (nI (Mn + 1)) = nI (l / (Mn + 1)) from pk_div (by omega) (by omega) (by omega)]
    refine zk_T.adv 3 (f' := (12, [(0, .ref 69), (2, .int (nI a)), (3, .int (nI (l / (Mn + 1)))), (4, .int ((nI (Gn - 1 - j)) + (-1)))], [])) (h' := zH v w t) rfl ?_
    rw [show nI (Gn - 1 - j) + (-1) = nI (Gn - 1 - (j + 1)) from zk_dec2 (by omega)]
    simp only [zl_mdigG] at hk
    exact hk
  · have hz := True.intro
    obtain ⟨l, rfl⟩ : ∃ z, z = s := ⟨_, rfl⟩
    show zk_T zk_mt zk_ex Ls xs zm_44 (12, [(0, .ref 69), (2, .int (nI a)), (3, .int (nI l)), (4, .int (nI (Gn - 1 - (0 + (Gn - 1 - a)))))], []) (zH v w t) q
    have hp : l < 2 ^ 31 := hp
    refine zk_T.adv 2 (f' := (15, [(0, .ref 69), (2, .int (nI a)), (3, .int (nI l)), (4, .int (nI (Gn - 1 - (0 + (Gn - 1 - a)))))], [.int (nI a), .int (nI (Gn - 1 - (0 + (Gn - 1 - a))))])) (h' := zH v w t) rfl ?_
    refine zk_T.br (f1 := (35, [(0, .ref 69), (2, .int (nI a)), (3, .int (nI l)), (4, .int (nI (Gn - 1 - (0 + (Gn - 1 - a)))))], [])) (f2 := (18, [(0, .ref 69), (2, .int (nI a)), (3, .int (nI l)), (4, .int (nI (Gn - 1 - (0 + (Gn - 1 - a)))))], [])) rfl (fun c1 => ?_) (fun c1 => absurd (nI_le (show Gn - 1 - (0 + (Gn - 1 - a)) ≤ a by omega) (by omega)) (of_decide_eq_false c1))
    exact hk
  · exact hP0
theorem zl_mdigE {Mn : Nat} : ∀ (n i l : Nat), zf (zl_mdigG Mn) n i l = l / (Mn + 1) ^ n
  | 0, i, l => by rw [Nat.pow_zero, Nat.div_one]; rfl
  | n + 1, i, l => by
    show zf (zl_mdigG Mn) n (i + 1) (l / (Mn + 1)) = _
    rw [zl_mdigE n (i + 1), Nat.div_div_eq_div_mul, Nat.pow_succ, Nat.mul_comm]
def zr_mdig (Mn Gn l a : Nat) : Nat := l / (Mn + 1) ^ (Gn - 1 - a) % (Mn + 1)
/-- BasketKeepModel.digitOf -/
theorem zs_mdigitOf (Mn : Nat) (hM : v 71 2 = nI Mn) (h5 : Mn ≤ 5) (Gn : Nat) (hG : v 71 3 = nI Gn) (h4 : Gn ≤ 4) (l a : Nat) (hl : l < 2 ^ 31) (ha : a < Gn) : zk_Cr zk_mt zk_ex Ls xs 44 [.ref 69, .int (nI l), .int (nI a)] (zH v w t) (some (.int (nI (zr_mdig Mn Gn l a))), zH v w t) := by
  refine zk_Cr.of (K := zm_44) rfl rfl rfl ?_
  show zk_T zk_mt zk_ex Ls xs zm_44 (0, [(0, .ref 69), (1, .int (nI l)), (2, .int (nI a))], []) (zH v w t) _
  refine zk_T.adv 5 (f' := (7, [(0, .ref 69), (1, .int (nI l)), (2, .int (nI a)), (3, .int (nI l))], [.int 3, .ref 72])) (h' := zH v w t) rfl ?_
  refine zk_T.ob (f' := (8, [(0, .ref 69), (1, .int (nI l)), (2, .int (nI a)), (3, .int (nI l))], [.int (v 71 (3 : Int32).toNatClampNeg)])) (h' := zH v w t) rfl rfl ?_
  show zk_T zk_mt zk_ex Ls xs zm_44 (8, [(0, .ref 69), (1, .int (nI l)), (2, .int (nI a)), (3, .int (nI l))], [.int (v 71 3)]) (zH v w t) _
  rw [hG]
  refine zk_T.adv 2 (f' := (10, [(0, .ref 69), (1, .int (nI l)), (2, .int (nI a)), (3, .int (nI l))], [.int ((nI Gn) - 1)])) (h' := zH v w t) rfl ?_
  rw [show (nI Gn) - 1 = nI (Gn - 1) from zk_dec1 (by omega)]
  refine zk_T.adv 1 (f' := (12, [(0, .ref 69), (2, .int (nI a)), (3, .int (nI l)), (4, .int (nI (Gn - 1)))], [])) (h' := zH v w t) rfl ?_
  refine zl_mdig (v := v) (w := w) (t := t) Mn hM h5 Gn hG h4 a ha l _ hl ?_
  rw [zl_mdigE]
  show zk_T zk_mt zk_ex Ls xs zm_44 (35, [(0, .ref 69), (2, .int (nI a)), (3, .int (nI (l / (Mn + 1) ^ (Gn - 1 - a)))), (4, .int (nI (Gn - 1 - (0 + (Gn - 1 - a)))))], []) (zH v w t) _
  have hl2 : l / (Mn + 1) ^ (Gn - 1 - a) < 2 ^ 31 := Nat.lt_of_le_of_lt (Nat.div_le_self _ _) hl
  refine zk_T.adv 4 (f' := (41, [(0, .ref 69), (2, .int (nI a)), (3, .int (nI (l / (Mn + 1) ^ (Gn - 1 - a)))), (4, .int (nI (Gn - 1 - (0 + (Gn - 1 - a)))))], [.int 2, .ref 72, .int (nI (l / (Mn + 1) ^ (Gn - 1 - a)))])) (h' := zH v w t) rfl ?_
  refine zk_T.ob (f' := (42, [(0, .ref 69), (2, .int (nI a)), (3, .int (nI (l / (Mn + 1) ^ (Gn - 1 - a)))), (4, .int (nI (Gn - 1 - (0 + (Gn - 1 - a)))))], [.int (v 71 (2 : Int32).toNatClampNeg), .int (nI (l / (Mn + 1) ^ (Gn - 1 - a)))])) (h' := zH v w t) rfl rfl ?_
  show zk_T zk_mt zk_ex Ls xs zm_44 (42, [(0, .ref 69), (2, .int (nI a)), (3, .int (nI (l / (Mn + 1) ^ (Gn - 1 - a)))), (4, .int (nI (Gn - 1 - (0 + (Gn - 1 - a)))))], [.int (v 71 2), .int (nI (l / (Mn + 1) ^ (Gn - 1 - a)))]) (zH v w t) _
  rw [hM]
  refine zk_T.adv 2 (f' := (44, [(0, .ref 69), (2, .int (nI a)), (3, .int (nI (l / (Mn + 1) ^ (Gn - 1 - a)))), (4, .int (nI (Gn - 1 - (0 + (Gn - 1 - a)))))], [.int ((nI Mn) + 1), .int (nI (l / (Mn + 1) ^ (Gn - 1 - a)))])) (h' := zH v w t) rfl ?_
  rw [show (nI Mn) + 1 = nI (Mn + 1) from nI_add Mn 1]
  refine zk_T.ob (f' := (45, [(0, .ref 69), (2, .int (nI a)), (3, .int (nI (l / (Mn + 1) ^ (Gn - 1 - a)))), (4, .int (nI (Gn - 1 - (0 + (Gn - 1 - a)))))], [.int ((nI (l / (Mn + 1) ^ (Gn - 1 - a))) - (nI (l / (Mn + 1) ^ (Gn - 1 - a))) / (nI (Mn + 1)) * (nI (Mn + 1)))])) (h' := zH v w t) rfl (decide_eq_true (nI_ne0 (by omega) (by omega))) ?_
  rw [show (nI (l / (Mn + 1) ^ (Gn - 1 - a))) - (nI (l / (Mn + 1) ^ (Gn - 1 - a))) / (nI (Mn + 1)) * (nI (Mn + 1)) = nI (l / (Mn + 1) ^ (Gn - 1 - a) % (Mn + 1)) from pk_rem hl2 (by omega) (by omega)]
  exact zk_T.rt rfl rfl rfl
def zl_misRowG (Mn Gn : Nat) (st : Nat → Int32) (l : Nat) (j : Nat) (s : Int32) : (Int32) ⊕ Int32 := match s with
  | tk => if (nI (zr_mdig Mn Gn l j)) ≤ 0 then .inl (tk ||| ((1 : Int32) <<< ((nI (zr_mdig Mn Gn l j)) &&& 31))) else (if (zr_mhasBit (st 14) (nI j)) = 0 then if (zr_mhasBit tk (nI (zr_mdig Mn Gn l j))) = 0 then .inl (tk ||| ((1 : Int32) <<< ((nI (zr_mdig Mn Gn l j)) &&& 31))) else .inr 0 else .inr 0)
theorem zl_misRow (Mn : Nat) (hM : v 71 2 = nI Mn) (h5 : Mn ≤ 5) (Gn : Nat) (hG : v 71 3 = nI Gn) (h4 : Gn ≤ 4) (l : Nat) (hl : l < 2 ^ 31) : ∀ (s : Int32) (q : Option Value × zk_H), zk_or (fun (s : Int32) => zk_T zk_mt zk_ex Ls xs zm_119 (65, [(0, .ref 69), (1, .int (nI l)), (2, .int s), (3, .int (nI (0 + Gn)))], []) (zH v w t) q) (fun (r : Int32) => (some (.int r), zH v w t) = q) (zfr (zl_misRowG Mn Gn (v 75) l) Gn 0 s) → zk_T zk_mt zk_ex Ls xs zm_119 (4, [(0, .ref 69), (1, .int (nI l)), (2, .int s), (3, .int (nI 0))], []) (zH v w t) q := by
  intro s q hk
  refine zk_forX (M := zm_119) (fun j (s : Int32) => (4, [(0, .ref 69), (1, .int (nI l)), (2, .int s), (3, .int (nI j))], [])) (fun _ (s : Int32) => zH v w t) (zl_misRowG Mn Gn (v 75) l) (fun _ _ => True) (fun (s : Int32) => (65, [(0, .ref 69), (1, .int (nI l)), (2, .int s), (3, .int (nI (0 + Gn)))], [])) (fun (s : Int32) => zH v w t) (fun r q => (some (.int r), zH v w t) = q) (Gn) 0 s (fun _ _ _ _ _ _ _ => trivial) (fun j s hj1 hj2 hp q hk => ?_) (fun s hp q hk => ?_) ?_ q hk
  · have hz := True.intro
    obtain ⟨tk, rfl⟩ : ∃ z, z = s := ⟨_, rfl⟩
    show zk_T zk_mt zk_ex Ls xs zm_119 (4, [(0, .ref 69), (1, .int (nI l)), (2, .int tk), (3, .int (nI j))], []) (zH v w t) q
    refine zk_T.adv 4 (f' := (10, [(0, .ref 69), (1, .int (nI l)), (2, .int tk), (3, .int (nI j))], [.int 3, .ref 72, .int (nI j)])) (h' := zH v w t) rfl ?_
    refine zk_T.ob (f' := (11, [(0, .ref 69), (1, .int (nI l)), (2, .int tk), (3, .int (nI j))], [.int (v 71 (3 : Int32).toNatClampNeg), .int (nI j)])) (h' := zH v w t) rfl rfl ?_
    show zk_T zk_mt zk_ex Ls xs zm_119 (11, [(0, .ref 69), (1, .int (nI l)), (2, .int tk), (3, .int (nI j))], [.int (v 71 3), .int (nI j)]) (zH v w t) _
    refine zk_T.br (f1 := (65, [(0, .ref 69), (1, .int (nI l)), (2, .int tk), (3, .int (nI j))], [])) (f2 := (14, [(0, .ref 69), (1, .int (nI l)), (2, .int tk), (3, .int (nI j))], [])) rfl (fun c1 => absurd (of_decide_eq_true c1) (by rw [show _ = nI Gn from hG]; exact nI_ge (show j < Gn by omega) (by omega))) (fun c1 => ?_)
    refine zk_T.adv 3 (f' := (17, [(0, .ref 69), (1, .int (nI l)), (2, .int tk), (3, .int (nI j))], [.int (nI j), .int (nI l), .ref 69])) (h' := zH v w t) rfl ?_
    refine zk_T.cl (v := some (.int (nI (zr_mdig Mn Gn l j)))) (h' := zH v w t) rfl (zs_mdigitOf (v := v) (w := w) Mn hM h5 Gn hG h4 l j (by omega) (by omega)) ?_
    show zk_T zk_mt zk_ex Ls xs zm_119 (20, [(0, .ref 69), (1, .int (nI l)), (2, .int tk), (3, .int (nI j))], [.int (nI (zr_mdig Mn Gn l j))]) (zH v w t) _
    refine zk_T.adv 2 (f' := (24, [(0, .ref 69), (1, .int (nI l)), (2, .int tk), (3, .int (nI j)), (4, .int (nI (zr_mdig Mn Gn l j)))], [.int (nI (zr_mdig Mn Gn l j))])) (h' := zH v w t) rfl ?_
    refine zk_T.br (f1 := (52, [(0, .ref 69), (1, .int (nI l)), (2, .int tk), (3, .int (nI j)), (4, .int (nI (zr_mdig Mn Gn l j)))], [])) (f2 := (27, [(0, .ref 69), (1, .int (nI l)), (2, .int tk), (3, .int (nI j)), (4, .int (nI (zr_mdig Mn Gn l j)))], [])) rfl (fun c2 => ?_) (fun c2 => ?_)
    · have c2 : (nI (zr_mdig Mn Gn l j)) ≤ 0 := of_decide_eq_true c2
      refine zk_T.adv 8 (f' := (4, [(0, .ref 69), (1, .int (nI l)), (2, .int (tk ||| ((1 : Int32) <<< ((nI (zr_mdig Mn Gn l j)) &&& 31)))), (3, .int ((nI j) + 1))], [])) (h' := zH v w t) rfl ?_
      rw [nI_1]
      simp only [zl_misRowG, zk_or, if_pos c2] at hk
      exact hk
    · have c2 : ¬ ((nI (zr_mdig Mn Gn l j)) ≤ 0) := of_decide_eq_false c2
      refine zk_T.adv 3 (f' := (33, [(0, .ref 69), (1, .int (nI l)), (2, .int tk), (3, .int (nI j)), (4, .int (nI (zr_mdig Mn Gn l j)))], [.int 14, .ref 76])) (h' := zH v w t) rfl ?_
      refine zk_T.ob (f' := (34, [(0, .ref 69), (1, .int (nI l)), (2, .int tk), (3, .int (nI j)), (4, .int (nI (zr_mdig Mn Gn l j)))], [.int (v 75 (14 : Int32).toNatClampNeg)])) (h' := zH v w t) rfl rfl ?_
      show zk_T zk_mt zk_ex Ls xs zm_119 (34, [(0, .ref 69), (1, .int (nI l)), (2, .int tk), (3, .int (nI j)), (4, .int (nI (zr_mdig Mn Gn l j)))], [.int (v 75 14)]) (zH v w t) _
      refine zk_T.adv 1 (f' := (35, [(0, .ref 69), (1, .int (nI l)), (2, .int tk), (3, .int (nI j)), (4, .int (nI (zr_mdig Mn Gn l j)))], [.int (nI j), .int (v 75 14)])) (h' := zH v w t) rfl ?_
      refine zk_T.cl (v := some (.int (zr_mhasBit (v 75 14) (nI j)))) (h' := zH v w t) rfl (zs_mhasBit (v 75 14) (nI j)) ?_
      show zk_T zk_mt zk_ex Ls xs zm_119 (38, [(0, .ref 69), (1, .int (nI l)), (2, .int tk), (3, .int (nI j)), (4, .int (nI (zr_mdig Mn Gn l j)))], [.int (zr_mhasBit (v 75 14) (nI j))]) (zH v w t) _
      refine zk_T.br (f1 := (41, [(0, .ref 69), (1, .int (nI l)), (2, .int tk), (3, .int (nI j)), (4, .int (nI (zr_mdig Mn Gn l j)))], [])) (f2 := (50, [(0, .ref 69), (1, .int (nI l)), (2, .int tk), (3, .int (nI j)), (4, .int (nI (zr_mdig Mn Gn l j)))], [])) rfl (fun c3 => ?_) (fun c3 => ?_)
      · have c3 : (zr_mhasBit (v 75 14) (nI j)) = 0 := of_decide_eq_true c3
        refine zk_T.adv 2 (f' := (44, [(0, .ref 69), (1, .int (nI l)), (2, .int tk), (3, .int (nI j)), (4, .int (nI (zr_mdig Mn Gn l j)))], [.int (nI (zr_mdig Mn Gn l j)), .int tk])) (h' := zH v w t) rfl ?_
        refine zk_T.cl (v := some (.int (zr_mhasBit tk (nI (zr_mdig Mn Gn l j))))) (h' := zH v w t) rfl (zs_mhasBit tk (nI (zr_mdig Mn Gn l j))) ?_
        show zk_T zk_mt zk_ex Ls xs zm_119 (47, [(0, .ref 69), (1, .int (nI l)), (2, .int tk), (3, .int (nI j)), (4, .int (nI (zr_mdig Mn Gn l j)))], [.int (zr_mhasBit tk (nI (zr_mdig Mn Gn l j)))]) (zH v w t) _
        refine zk_T.br (f1 := (52, [(0, .ref 69), (1, .int (nI l)), (2, .int tk), (3, .int (nI j)), (4, .int (nI (zr_mdig Mn Gn l j)))], [])) (f2 := (50, [(0, .ref 69), (1, .int (nI l)), (2, .int tk), (3, .int (nI j)), (4, .int (nI (zr_mdig Mn Gn l j)))], [])) rfl (fun c4 => ?_) (fun c4 => ?_)
        · have c4 : (zr_mhasBit tk (nI (zr_mdig Mn Gn l j))) = 0 := of_decide_eq_true c4
          refine zk_T.adv 8 (f' := (4, [(0, .ref 69), (1, .int (nI l)), (2, .int (tk ||| ((1 : Int32) <<< ((nI (zr_mdig Mn Gn l j)) &&& 31)))), (3, .int ((nI j) + 1))], [])) (h' := zH v w t) rfl ?_
          rw [nI_1]
          simp only [zl_misRowG, zk_or, if_neg c2, if_pos c3, if_pos c4] at hk
          exact hk
        · have c4 : ¬ ((zr_mhasBit tk (nI (zr_mdig Mn Gn l j))) = 0) := of_decide_eq_false c4
          refine zk_T.adv 1 (f' := (51, [(0, .ref 69), (1, .int (nI l)), (2, .int tk), (3, .int (nI j)), (4, .int (nI (zr_mdig Mn Gn l j)))], [.int 0])) (h' := zH v w t) rfl ?_
          simp only [zl_misRowG, zk_or, if_neg c2, if_pos c3, if_neg c4] at hk
          exact zk_T.rt rfl rfl hk
      · have c3 : ¬ ((zr_mhasBit (v 75 14) (nI j)) = 0) := of_decide_eq_false c3
        refine zk_T.adv 1 (f' := (51, [(0, .ref 69), (1, .int (nI l)), (2, .int tk), (3, .int (nI j)), (4, .int (nI (zr_mdig Mn Gn l j)))], [.int 0])) (h' := zH v w t) rfl ?_
        simp only [zl_misRowG, zk_or, if_neg c2, if_neg c3] at hk
        exact zk_T.rt rfl rfl hk
  · have hz := True.intro
    obtain ⟨tk, rfl⟩ : ∃ z, z = s := ⟨_, rfl⟩
    show zk_T zk_mt zk_ex Ls xs zm_119 (4, [(0, .ref 69), (1, .int (nI l)), (2, .int tk), (3, .int (nI (0 + Gn)))], []) (zH v w t) q
    refine zk_T.adv 4 (f' := (10, [(0, .ref 69), (1, .int (nI l)), (2, .int tk), (3, .int (nI (0 + Gn)))], [.int 3, .ref 72, .int (nI (0 + Gn))])) (h' := zH v w t) rfl ?_
    refine zk_T.ob (f' := (11, [(0, .ref 69), (1, .int (nI l)), (2, .int tk), (3, .int (nI (0 + Gn)))], [.int (v 71 (3 : Int32).toNatClampNeg), .int (nI (0 + Gn))])) (h' := zH v w t) rfl rfl ?_
    show zk_T zk_mt zk_ex Ls xs zm_119 (11, [(0, .ref 69), (1, .int (nI l)), (2, .int tk), (3, .int (nI (0 + Gn)))], [.int (v 71 3), .int (nI (0 + Gn))]) (zH v w t) _
    refine zk_T.br (f1 := (65, [(0, .ref 69), (1, .int (nI l)), (2, .int tk), (3, .int (nI (0 + Gn)))], [])) (f2 := (14, [(0, .ref 69), (1, .int (nI l)), (2, .int tk), (3, .int (nI (0 + Gn)))], [])) rfl (fun c1 => ?_) (fun c1 => absurd (by rw [show _ = nI Gn from hG, Nat.zero_add]; exact nI_le (Nat.le_refl _) (by omega)) (of_decide_eq_false c1))
    exact hk
  · exact trivial
def zr_misRow (Mn Gn : Nat) (st : Nat → Int32) (l : Nat) : Int32 := match zfr (zl_misRowG Mn Gn (st) l) Gn 0 0 with | .inl s => 1 | .inr r => r
/-- BasketKeepModel.isRow -/
theorem zs_misRow (Mn : Nat) (hM : v 71 2 = nI Mn) (h5 : Mn ≤ 5) (Gn : Nat) (hG : v 71 3 = nI Gn) (h4 : Gn ≤ 4) (l : Nat) (hl : l < 2 ^ 31) : zk_Cr zk_mt zk_ex Ls xs 119 [.ref 69, .int (nI l)] (zH v w t) (some (.int (zr_misRow Mn Gn (v 75) l)), zH v w t) := by
  refine zk_Cr.of (K := zm_119) rfl rfl rfl ?_
  show zk_T zk_mt zk_ex Ls xs zm_119 (0, [(0, .ref 69), (1, .int (nI l))], []) (zH v w t) _
  refine zk_T.adv 4 (f' := (4, [(0, .ref 69), (1, .int (nI l)), (2, .int 0), (3, .int 0)], [])) (h' := zH v w t) rfl ?_
  refine zl_misRow (v := v) (w := w) (t := t) Mn hM h5 Gn hG h4 l hl 0 _ ?_
  cases z1 : zfr (zl_misRowG Mn Gn (v 75) l) Gn 0 0 with
  | inl s =>
    show zk_T zk_mt zk_ex Ls xs zm_119 (65, [(0, .ref 69), (1, .int (nI l)), (2, .int s), (3, .int (nI (0 + Gn)))], []) (zH v w t) _
    refine zk_T.adv 1 (f' := (66, [(0, .ref 69), (1, .int (nI l)), (2, .int s), (3, .int (nI (0 + Gn)))], [.int 1])) (h' := zH v w t) rfl ?_
    exact zk_T.rt rfl rfl (by simp only [zr_misRow, z1])
  | inr r =>
    show ((some (Value.int r), zH v w t) : Option Value × zk_H) = _
    simp only [zr_misRow, z1]
def zl_mlayAG (Mn : Nat) (j : Nat) (s : Nat) : Nat := match s with
  | cd => (cd * (Mn + 1))
theorem zl_mlayA (Mn : Nat) (hM : v 71 2 = nI Mn) (h5 : Mn ≤ 5) (Gn : Nat) (hG : v 71 3 = nI Gn) (h4 : Gn ≤ 4) (n : Nat) : ∀ (s : Nat) (q : Option Value × zk_H), zk_T zk_mt zk_ex Ls xs zm_243 ((fun (s : Nat) => ((31, [(0, .ref 69), (1, .int (nI n)), (2, .int (nI s)), (3, .int (nI (0 + Gn)))], []) : zk_F)) (zf (zl_mlayAG Mn) Gn 0 s)) ((fun (s : Nat) => zH v w t) (zf (zl_mlayAG Mn) Gn 0 s)) q → zk_T zk_mt zk_ex Ls xs zm_243 (4, [(0, .ref 69), (1, .int (nI n)), (2, .int (nI s)), (3, .int (nI 0))], []) (zH v w t) q := by
  intro s q hk
  refine zk_forK (M := zm_243) (fun j (s : Nat) => (4, [(0, .ref 69), (1, .int (nI n)), (2, .int (nI s)), (3, .int (nI j))], [])) (fun _ (s : Nat) => zH v w t) (zl_mlayAG Mn) (fun _ _ => True) (fun (s : Nat) => (31, [(0, .ref 69), (1, .int (nI n)), (2, .int (nI s)), (3, .int (nI (0 + Gn)))], [])) (fun (s : Nat) => zH v w t) (Gn) 0 s (fun _ _ _ _ _ => trivial) (fun j s hj1 hj2 hp q hk => ?_) (fun s hp q hk => ?_) ?_ q hk
  · have hz := True.intro
    obtain ⟨cd, rfl⟩ : ∃ z, z = s := ⟨_, rfl⟩
    show zk_T zk_mt zk_ex Ls xs zm_243 (4, [(0, .ref 69), (1, .int (nI n)), (2, .int (nI cd)), (3, .int (nI j))], []) (zH v w t) q
    refine zk_T.adv 4 (f' := (10, [(0, .ref 69), (1, .int (nI n)), (2, .int (nI cd)), (3, .int (nI j))], [.int 3, .ref 72, .int (nI j)])) (h' := zH v w t) rfl ?_
    refine zk_T.ob (f' := (11, [(0, .ref 69), (1, .int (nI n)), (2, .int (nI cd)), (3, .int (nI j))], [.int (v 71 (3 : Int32).toNatClampNeg), .int (nI j)])) (h' := zH v w t) rfl rfl ?_
    show zk_T zk_mt zk_ex Ls xs zm_243 (11, [(0, .ref 69), (1, .int (nI n)), (2, .int (nI cd)), (3, .int (nI j))], [.int (v 71 3), .int (nI j)]) (zH v w t) _
    refine zk_T.br (f1 := (31, [(0, .ref 69), (1, .int (nI n)), (2, .int (nI cd)), (3, .int (nI j))], [])) (f2 := (14, [(0, .ref 69), (1, .int (nI n)), (2, .int (nI cd)), (3, .int (nI j))], [])) rfl (fun c1 => absurd (of_decide_eq_true c1) (by rw [show _ = nI Gn from hG]; exact nI_ge (show j < Gn by omega) (by omega))) (fun c1 => ?_)
    refine zk_T.adv 4 (f' := (20, [(0, .ref 69), (1, .int (nI n)), (2, .int (nI cd)), (3, .int (nI j))], [.int 2, .ref 72, .int (nI cd)])) (h' := zH v w t) rfl ?_
    refine zk_T.ob (f' := (21, [(0, .ref 69), (1, .int (nI n)), (2, .int (nI cd)), (3, .int (nI j))], [.int (v 71 (2 : Int32).toNatClampNeg), .int (nI cd)])) (h' := zH v w t) rfl rfl ?_
    show zk_T zk_mt zk_ex Ls xs zm_243 (21, [(0, .ref 69), (1, .int (nI n)), (2, .int (nI cd)), (3, .int (nI j))], [.int (v 71 2), .int (nI cd)]) (zH v w t) _
    rw [hM]
    refine zk_T.adv 2 (f' := (23, [(0, .ref 69), (1, .int (nI n)), (2, .int (nI cd)), (3, .int (nI j))], [.int ((nI Mn) + 1), .int (nI cd)])) (h' := zH v w t) rfl ?_
    rw [show (nI Mn) + 1 = nI (Mn + 1) from nI_add Mn 1]
    refine zk_T.adv 1 (f' := (24, [(0, .ref 69), (1, .int (nI n)), (2, .int (nI cd)), (3, .int (nI j))], [.int ((nI cd) * (nI (Mn + 1)))])) (h' := zH v w t) rfl ?_
    rw [show (nI cd) * (nI (Mn + 1)) = nI (cd * (Mn + 1)) from pk_mul cd (Mn + 1)]
    refine zk_T.adv 3 (f' := (4, [(0, .ref 69), (1, .int (nI n)), (2, .int (nI (cd * (Mn + 1)))), (3, .int ((nI j) + 1))], [])) (h' := zH v w t) rfl ?_
    rw [nI_1]
    simp only [zl_mlayAG] at hk
    exact hk
  · have hz := True.intro
    obtain ⟨cd, rfl⟩ : ∃ z, z = s := ⟨_, rfl⟩
    show zk_T zk_mt zk_ex Ls xs zm_243 (4, [(0, .ref 69), (1, .int (nI n)), (2, .int (nI cd)), (3, .int (nI (0 + Gn)))], []) (zH v w t) q
    refine zk_T.adv 4 (f' := (10, [(0, .ref 69), (1, .int (nI n)), (2, .int (nI cd)), (3, .int (nI (0 + Gn)))], [.int 3, .ref 72, .int (nI (0 + Gn))])) (h' := zH v w t) rfl ?_
    refine zk_T.ob (f' := (11, [(0, .ref 69), (1, .int (nI n)), (2, .int (nI cd)), (3, .int (nI (0 + Gn)))], [.int (v 71 (3 : Int32).toNatClampNeg), .int (nI (0 + Gn))])) (h' := zH v w t) rfl rfl ?_
    show zk_T zk_mt zk_ex Ls xs zm_243 (11, [(0, .ref 69), (1, .int (nI n)), (2, .int (nI cd)), (3, .int (nI (0 + Gn)))], [.int (v 71 3), .int (nI (0 + Gn))]) (zH v w t) _
    refine zk_T.br (f1 := (31, [(0, .ref 69), (1, .int (nI n)), (2, .int (nI cd)), (3, .int (nI (0 + Gn)))], [])) (f2 := (14, [(0, .ref 69), (1, .int (nI n)), (2, .int (nI cd)), (3, .int (nI (0 + Gn)))], [])) rfl (fun c1 => ?_) (fun c1 => absurd (by rw [show _ = nI Gn from hG, Nat.zero_add]; exact nI_le (Nat.le_refl _) (by omega)) (of_decide_eq_false c1))
    exact hk
  · exact trivial
theorem zl_mlayAE {Mn : Nat} : ∀ (n i c : Nat), zf (zl_mlayAG Mn) n i c = c * (Mn + 1) ^ n
  | 0, i, c => by rw [Nat.pow_zero, Nat.mul_one]; rfl
  | n + 1, i, c => by
    show zf (zl_mlayAG Mn) n (i + 1) (c * (Mn + 1)) = _
    rw [zl_mlayAE n (i + 1), Nat.mul_assoc, Nat.pow_succ, Nat.mul_comm (Mn + 1)]
def zl_mlayIG (Mn Gn : Nat) (st : Nat → Int32) (l : Nat) (j : Nat) (s : (Nat → Int32)) : (Nat → Int32) := match s with
  | row => if (zr_mhasBit (st 14) (nI j)) = 0 then upd row (10 + j) (nI (zr_mdig Mn Gn l j)) else row
theorem zl_mlayI (Mn : Nat) (hM : v 71 2 = nI Mn) (h5 : Mn ≤ 5) (Gn : Nat) (hG : v 71 3 = nI Gn) (h4 : Gn ≤ 4) (n : Nat) (cs be : Int32) (l : Nat) (hl : l < 2 ^ 31) : ∀ (s : (Nat → Int32)) (q : Option Value × zk_H), zk_T zk_mt zk_ex Ls xs zm_243 ((fun (s : (Nat → Int32)) => ((116, [(0, .ref 69), (1, .int (nI n)), (2, .int cs), (3, .int be), (4, .int (nI l)), (5, .int (nI (0 + Gn)))], []) : zk_F)) (zf (zl_mlayIG Mn Gn (v 75) l) Gn 0 s)) ((fun (s : (Nat → Int32)) => zH (zb v 76 s) w t) (zf (zl_mlayIG Mn Gn (v 75) l) Gn 0 s)) q → zk_T zk_mt zk_ex Ls xs zm_243 (66, [(0, .ref 69), (1, .int (nI n)), (2, .int cs), (3, .int be), (4, .int (nI l)), (5, .int (nI 0))], []) (zH (zb v 76 s) w t) q := by
  intro s q hk
  refine zk_forK (M := zm_243) (fun j (s : (Nat → Int32)) => (66, [(0, .ref 69), (1, .int (nI n)), (2, .int cs), (3, .int be), (4, .int (nI l)), (5, .int (nI j))], [])) (fun _ (s : (Nat → Int32)) => zH (zb v 76 s) w t) (zl_mlayIG Mn Gn (v 75) l) (fun _ _ => True) (fun (s : (Nat → Int32)) => (116, [(0, .ref 69), (1, .int (nI n)), (2, .int cs), (3, .int be), (4, .int (nI l)), (5, .int (nI (0 + Gn)))], [])) (fun (s : (Nat → Int32)) => zH (zb v 76 s) w t) (Gn) 0 s (fun _ _ _ _ _ => trivial) (fun j s hj1 hj2 hp q hk => ?_) (fun s hp q hk => ?_) ?_ q hk
  · have hz := True.intro
    obtain ⟨row, rfl⟩ : ∃ z, z = s := ⟨_, rfl⟩
    show zk_T zk_mt zk_ex Ls xs zm_243 (66, [(0, .ref 69), (1, .int (nI n)), (2, .int cs), (3, .int be), (4, .int (nI l)), (5, .int (nI j))], []) (zH (zb v 76 row) w t) q
    refine zk_T.adv 4 (f' := (73, [(0, .ref 69), (1, .int (nI n)), (2, .int cs), (3, .int be), (4, .int (nI l)), (5, .int (nI j))], [.int 3, .ref 72, .int (nI j)])) (h' := zH (zb v 76 row) w t) rfl ?_
    refine zk_T.ob (f' := (74, [(0, .ref 69), (1, .int (nI n)), (2, .int cs), (3, .int be), (4, .int (nI l)), (5, .int (nI j))], [.int (v 71 (3 : Int32).toNatClampNeg), .int (nI j)])) (h' := zH (zb v 76 row) w t) rfl rfl ?_
    show zk_T zk_mt zk_ex Ls xs zm_243 (74, [(0, .ref 69), (1, .int (nI n)), (2, .int cs), (3, .int be), (4, .int (nI l)), (5, .int (nI j))], [.int (v 71 3), .int (nI j)]) (zH (zb v 76 row) w t) _
    refine zk_T.br (f1 := (116, [(0, .ref 69), (1, .int (nI n)), (2, .int cs), (3, .int be), (4, .int (nI l)), (5, .int (nI j))], [])) (f2 := (77, [(0, .ref 69), (1, .int (nI n)), (2, .int cs), (3, .int be), (4, .int (nI l)), (5, .int (nI j))], [])) rfl (fun c1 => absurd (of_decide_eq_true c1) (by rw [show _ = nI Gn from hG]; exact nI_ge (show j < Gn by omega) (by omega))) (fun c1 => ?_)
    refine zk_T.adv 3 (f' := (83, [(0, .ref 69), (1, .int (nI n)), (2, .int cs), (3, .int be), (4, .int (nI l)), (5, .int (nI j))], [.int 14, .ref 76])) (h' := zH (zb v 76 row) w t) rfl ?_
    refine zk_T.ob (f' := (84, [(0, .ref 69), (1, .int (nI n)), (2, .int cs), (3, .int be), (4, .int (nI l)), (5, .int (nI j))], [.int (v 75 (14 : Int32).toNatClampNeg)])) (h' := zH (zb v 76 row) w t) rfl rfl ?_
    show zk_T zk_mt zk_ex Ls xs zm_243 (84, [(0, .ref 69), (1, .int (nI n)), (2, .int cs), (3, .int be), (4, .int (nI l)), (5, .int (nI j))], [.int (v 75 14)]) (zH (zb v 76 row) w t) _
    refine zk_T.adv 1 (f' := (86, [(0, .ref 69), (1, .int (nI n)), (2, .int cs), (3, .int be), (4, .int (nI l)), (5, .int (nI j))], [.int (nI j), .int (v 75 14)])) (h' := zH (zb v 76 row) w t) rfl ?_
    refine zk_T.cl (v := some (.int (zr_mhasBit (v 75 14) (nI j)))) (h' := zH (zb v 76 row) w t) rfl (zs_mhasBit (v 75 14) (nI j)) ?_
    show zk_T zk_mt zk_ex Ls xs zm_243 (89, [(0, .ref 69), (1, .int (nI n)), (2, .int cs), (3, .int be), (4, .int (nI l)), (5, .int (nI j))], [.int (zr_mhasBit (v 75 14) (nI j))]) (zH (zb v 76 row) w t) _
    refine zk_T.br (f1 := (92, [(0, .ref 69), (1, .int (nI n)), (2, .int cs), (3, .int be), (4, .int (nI l)), (5, .int (nI j))], [])) (f2 := (110, [(0, .ref 69), (1, .int (nI n)), (2, .int cs), (3, .int be), (4, .int (nI l)), (5, .int (nI j))], [])) rfl (fun c2 => ?_) (fun c2 => ?_)
    · have c2 : (zr_mhasBit (v 75 14) (nI j)) = 0 := of_decide_eq_true c2
      refine zk_T.adv 5 (f' := (101, [(0, .ref 69), (1, .int (nI n)), (2, .int cs), (3, .int be), (4, .int (nI l)), (5, .int (nI j))], [.int (10 + (nI j)), .ref 77])) (h' := zH (zb v 76 row) w t) rfl ?_
      rw [show 10 + (nI j) = nI (10 + j) from nI_add 10 j]
      refine zk_T.adv 3 (f' := (106, [(0, .ref 69), (1, .int (nI n)), (2, .int cs), (3, .int be), (4, .int (nI l)), (5, .int (nI j))], [.int (nI j), .int (nI l), .ref 69, .int (nI (10 + j)), .ref 77])) (h' := zH (zb v 76 row) w t) rfl ?_
      refine zk_T.cl (v := some (.int (nI (zr_mdig Mn Gn l j)))) (h' := zH (zb v 76 row) w t) rfl (zs_mdigitOf (v := (zb v 76 row)) (w := w) Mn hM h5 Gn hG h4 l j (by omega) (by omega)) ?_
      show zk_T zk_mt zk_ex Ls xs zm_243 (109, [(0, .ref 69), (1, .int (nI n)), (2, .int cs), (3, .int be), (4, .int (nI l)), (5, .int (nI j))], [.int (nI (zr_mdig Mn Gn l j)), .int (nI (10 + j)), .ref 77]) (zH (zb v 76 row) w t) _
      refine zk_T.ob (f' := (110, [(0, .ref 69), (1, .int (nI n)), (2, .int cs), (3, .int be), (4, .int (nI l)), (5, .int (nI j))], [])) (h' := zH (zb v 76 (upd row (nI (10 + j)).toNatClampNeg (nI (zr_mdig Mn Gn l j)))) w t) rfl (by first | exact zk_inN (by omega) (by decide) | decide) ?_
      rw [nI_clamp (show (10 + j) < 2 ^ 31 by omega)]
      refine zk_T.adv 2 (f' := (66, [(0, .ref 69), (1, .int (nI n)), (2, .int cs), (3, .int be), (4, .int (nI l)), (5, .int ((nI j) + 1))], [])) (h' := zH (zb v 76 (upd row (10 + j) (nI (zr_mdig Mn Gn l j)))) w t) rfl ?_
      rw [nI_1]
      simp only [zl_mlayIG, if_pos c2] at hk
      exact hk
    · have c2 : ¬ ((zr_mhasBit (v 75 14) (nI j)) = 0) := of_decide_eq_false c2
      refine zk_T.adv 2 (f' := (66, [(0, .ref 69), (1, .int (nI n)), (2, .int cs), (3, .int be), (4, .int (nI l)), (5, .int ((nI j) + 1))], [])) (h' := zH (zb v 76 row) w t) rfl ?_
      rw [nI_1]
      simp only [zl_mlayIG, if_neg c2] at hk
      exact hk
  · have hz := True.intro
    obtain ⟨row, rfl⟩ : ∃ z, z = s := ⟨_, rfl⟩
    show zk_T zk_mt zk_ex Ls xs zm_243 (66, [(0, .ref 69), (1, .int (nI n)), (2, .int cs), (3, .int be), (4, .int (nI l)), (5, .int (nI (0 + Gn)))], []) (zH (zb v 76 row) w t) q
    refine zk_T.adv 4 (f' := (73, [(0, .ref 69), (1, .int (nI n)), (2, .int cs), (3, .int be), (4, .int (nI l)), (5, .int (nI (0 + Gn)))], [.int 3, .ref 72, .int (nI (0 + Gn))])) (h' := zH (zb v 76 row) w t) rfl ?_
    refine zk_T.ob (f' := (74, [(0, .ref 69), (1, .int (nI n)), (2, .int cs), (3, .int be), (4, .int (nI l)), (5, .int (nI (0 + Gn)))], [.int (v 71 (3 : Int32).toNatClampNeg), .int (nI (0 + Gn))])) (h' := zH (zb v 76 row) w t) rfl rfl ?_
    show zk_T zk_mt zk_ex Ls xs zm_243 (74, [(0, .ref 69), (1, .int (nI n)), (2, .int cs), (3, .int be), (4, .int (nI l)), (5, .int (nI (0 + Gn)))], [.int (v 71 3), .int (nI (0 + Gn))]) (zH (zb v 76 row) w t) _
    refine zk_T.br (f1 := (116, [(0, .ref 69), (1, .int (nI n)), (2, .int cs), (3, .int be), (4, .int (nI l)), (5, .int (nI (0 + Gn)))], [])) (f2 := (77, [(0, .ref 69), (1, .int (nI n)), (2, .int cs), (3, .int be), (4, .int (nI l)), (5, .int (nI (0 + Gn)))], [])) rfl (fun c1 => ?_) (fun c1 => absurd (by rw [show _ = nI Gn from hG, Nat.zero_add]; exact nI_le (Nat.le_refl _) (by omega)) (of_decide_eq_false c1))
    exact hk
  · exact trivial
theorem zl_mlayI_lie {Mn Gn : Nat} {st : Nat → Int32} {l n i : Nat} (h5 : Mn ≤ 5) (h4 : Gn ≤ 4) {row : Nat → Int32} (h : zk_lie Gn row) : zk_lie Gn (zf (zl_mlayIG Mn Gn st l) n i row) := by
  refine zf_inv (P := fun row => zk_lie Gn row) ?_ row h
  intro j row hj1 hj2 hp
  unfold zl_mlayIG
  split
  · intro b hb
    by_cases hz : 10 + b = 10 + j
    · rw [hz, pk_us]
      have h1 : zr_mdig Mn Gn l j < Mn + 1 := Nat.mod_lt _ (Nat.succ_pos _)
      generalize zr_mdig Mn Gn l j = x at h1
      cases x with
      | zero => exact Or.inl rfl
      | succ e => exact Or.inr ⟨e, by omega, rfl⟩
    · rw [pk_un hz]
      exact hp b hb
  · exact hp
def zl_mlayG (n D Mn Gn : Nat) (r st : Nat → Int32) (j : Nat) (s : Nat × Int32 × (Nat → Int32) × Int32 × (Nat → Int32) × (Nat → Int32) × (Nat → Int32) × (Nat → Int32)) : Nat × Int32 × (Nat → Int32) × Int32 × (Nat → Int32) × (Nat → Int32) × (Nat → Int32) × (Nat → Int32) := match s with
  | (be, wl, row, ou, lt, lw, oo, slp) => if (zr_misRow Mn Gn (st) j) = 0 then (be, wl, row, ou, lt, lw, oo, slp) else if wl < (zr_mworth Gn (r) (zr_mgo n D Gn (r) (zr_mbegin (st) row lt lw oo slp).2.2.2.2.2 (zf (zl_mlayIG Mn Gn (st) j) Gn 0 (zr_mbegin (st) row lt lw oo slp).1) (zr_mbegin (st) row lt lw oo slp).2.1 (zr_mbegin (st) row lt lw oo slp).2.2.1 (zr_mbegin (st) row lt lw oo slp).2.2.2.1 (zr_mbegin (st) row lt lw oo slp).2.2.2.2.1).1) then (j, zr_mworth Gn (r) (zr_mgo n D Gn (r) (zr_mbegin (st) row lt lw oo slp).2.2.2.2.2 (zf (zl_mlayIG Mn Gn (st) j) Gn 0 (zr_mbegin (st) row lt lw oo slp).1) (zr_mbegin (st) row lt lw oo slp).2.1 (zr_mbegin (st) row lt lw oo slp).2.2.1 (zr_mbegin (st) row lt lw oo slp).2.2.2.1 (zr_mbegin (st) row lt lw oo slp).2.2.2.2.1).1, (zr_mgo n D Gn (r) (zr_mbegin (st) row lt lw oo slp).2.2.2.2.2 (zf (zl_mlayIG Mn Gn (st) j) Gn 0 (zr_mbegin (st) row lt lw oo slp).1) (zr_mbegin (st) row lt lw oo slp).2.1 (zr_mbegin (st) row lt lw oo slp).2.2.1 (zr_mbegin (st) row lt lw oo slp).2.2.2.1 (zr_mbegin (st) row lt lw oo slp).2.2.2.2.1).1, (zr_mgo n D Gn (r) (zr_mbegin (st) row lt lw oo slp).2.2.2.2.2 (zf (zl_mlayIG Mn Gn (st) j) Gn 0 (zr_mbegin (st) row lt lw oo slp).1) (zr_mbegin (st) row lt lw oo slp).2.1 (zr_mbegin (st) row lt lw oo slp).2.2.1 (zr_mbegin (st) row lt lw oo slp).2.2.2.1 (zr_mbegin (st) row lt lw oo slp).2.2.2.2.1).2.1, (zr_mgo n D Gn (r) (zr_mbegin (st) row lt lw oo slp).2.2.2.2.2 (zf (zl_mlayIG Mn Gn (st) j) Gn 0 (zr_mbegin (st) row lt lw oo slp).1) (zr_mbegin (st) row lt lw oo slp).2.1 (zr_mbegin (st) row lt lw oo slp).2.2.1 (zr_mbegin (st) row lt lw oo slp).2.2.2.1 (zr_mbegin (st) row lt lw oo slp).2.2.2.2.1).2.2.1, (zr_mgo n D Gn (r) (zr_mbegin (st) row lt lw oo slp).2.2.2.2.2 (zf (zl_mlayIG Mn Gn (st) j) Gn 0 (zr_mbegin (st) row lt lw oo slp).1) (zr_mbegin (st) row lt lw oo slp).2.1 (zr_mbegin (st) row lt lw oo slp).2.2.1 (zr_mbegin (st) row lt lw oo slp).2.2.2.1 (zr_mbegin (st) row lt lw oo slp).2.2.2.2.1).2.2.2.1, (zr_mgo n D Gn (r) (zr_mbegin (st) row lt lw oo slp).2.2.2.2.2 (zf (zl_mlayIG Mn Gn (st) j) Gn 0 (zr_mbegin (st) row lt lw oo slp).1) (zr_mbegin (st) row lt lw oo slp).2.1 (zr_mbegin (st) row lt lw oo slp).2.2.1 (zr_mbegin (st) row lt lw oo slp).2.2.2.1 (zr_mbegin (st) row lt lw oo slp).2.2.2.2.1).2.2.2.2, (zr_mbegin (st) row lt lw oo slp).2.2.2.2.2) else (be, wl, (zr_mgo n D Gn (r) (zr_mbegin (st) row lt lw oo slp).2.2.2.2.2 (zf (zl_mlayIG Mn Gn (st) j) Gn 0 (zr_mbegin (st) row lt lw oo slp).1) (zr_mbegin (st) row lt lw oo slp).2.1 (zr_mbegin (st) row lt lw oo slp).2.2.1 (zr_mbegin (st) row lt lw oo slp).2.2.2.1 (zr_mbegin (st) row lt lw oo slp).2.2.2.2.1).1, (zr_mgo n D Gn (r) (zr_mbegin (st) row lt lw oo slp).2.2.2.2.2 (zf (zl_mlayIG Mn Gn (st) j) Gn 0 (zr_mbegin (st) row lt lw oo slp).1) (zr_mbegin (st) row lt lw oo slp).2.1 (zr_mbegin (st) row lt lw oo slp).2.2.1 (zr_mbegin (st) row lt lw oo slp).2.2.2.1 (zr_mbegin (st) row lt lw oo slp).2.2.2.2.1).2.1, (zr_mgo n D Gn (r) (zr_mbegin (st) row lt lw oo slp).2.2.2.2.2 (zf (zl_mlayIG Mn Gn (st) j) Gn 0 (zr_mbegin (st) row lt lw oo slp).1) (zr_mbegin (st) row lt lw oo slp).2.1 (zr_mbegin (st) row lt lw oo slp).2.2.1 (zr_mbegin (st) row lt lw oo slp).2.2.2.1 (zr_mbegin (st) row lt lw oo slp).2.2.2.2.1).2.2.1, (zr_mgo n D Gn (r) (zr_mbegin (st) row lt lw oo slp).2.2.2.2.2 (zf (zl_mlayIG Mn Gn (st) j) Gn 0 (zr_mbegin (st) row lt lw oo slp).1) (zr_mbegin (st) row lt lw oo slp).2.1 (zr_mbegin (st) row lt lw oo slp).2.2.1 (zr_mbegin (st) row lt lw oo slp).2.2.2.1 (zr_mbegin (st) row lt lw oo slp).2.2.2.2.1).2.2.2.1, (zr_mgo n D Gn (r) (zr_mbegin (st) row lt lw oo slp).2.2.2.2.2 (zf (zl_mlayIG Mn Gn (st) j) Gn 0 (zr_mbegin (st) row lt lw oo slp).1) (zr_mbegin (st) row lt lw oo slp).2.1 (zr_mbegin (st) row lt lw oo slp).2.2.1 (zr_mbegin (st) row lt lw oo slp).2.2.2.1 (zr_mbegin (st) row lt lw oo slp).2.2.2.2.1).2.2.2.2, (zr_mbegin (st) row lt lw oo slp).2.2.2.2.2)
theorem zl_mlay (D : Nat) (hD : v 71 1 = nI D) (h8 : D ≤ 8) (Gn : Nat) (hG : v 71 3 = nI Gn) (h4 : Gn ≤ 4) (hev : ∀ d, d < D → ¬ v 71 (7 + 2 * d) = 0) (hli : zk_lie Gn (v 75)) (Mn : Nat) (hM : v 71 2 = nI Mn) (h5 : Mn ≤ 5) (n : Nat) (hn : n ≤ 60) (Rn : Nat) (hR : Rn ≤ 1296) : ∀ (s : Nat × Int32 × (Nat → Int32) × Int32 × (Nat → Int32) × (Nat → Int32) × (Nat → Int32) × (Nat → Int32)) (q : Option Value × zk_H), zk_T zk_mt zk_ex Ls xs zm_243 ((fun (s : Nat × Int32 × (Nat → Int32) × Int32 × (Nat → Int32) × (Nat → Int32) × (Nat → Int32) × (Nat → Int32)) => ((158, [(0, .ref 69), (1, .int (nI n)), (2, .int (nI Rn)), (3, .int (nI s.1)), (4, .int (nI (0 + Rn)))], []) : zk_F)) (zf (zl_mlayG n D Mn Gn (v 71) (v 75)) Rn 0 s)) ((fun (s : Nat × Int32 × (Nat → Int32) × Int32 × (Nat → Int32) × (Nat → Int32) × (Nat → Int32) × (Nat → Int32)) => zH (zb (zb (zb (zb (zb (zb v 68 (upd (upd (v 68) 26 s.2.2.2.1) 30 s.2.1)) 76 s.2.2.1) 79 s.2.2.2.2.2.2.2) 80 s.2.2.2.2.1) 81 s.2.2.2.2.2.1) 82 s.2.2.2.2.2.2.1) w t) (zf (zl_mlayG n D Mn Gn (v 71) (v 75)) Rn 0 s)) q → zk_T zk_mt zk_ex Ls xs zm_243 (41, [(0, .ref 69), (1, .int (nI n)), (2, .int (nI Rn)), (3, .int (nI s.1)), (4, .int (nI 0))], []) (zH (zb (zb (zb (zb (zb (zb v 68 (upd (upd (v 68) 26 s.2.2.2.1) 30 s.2.1)) 76 s.2.2.1) 79 s.2.2.2.2.2.2.2) 80 s.2.2.2.2.1) 81 s.2.2.2.2.2.1) 82 s.2.2.2.2.2.2.1) w t) q := by
  intro s q hk
  refine zk_forK (M := zm_243) (fun j (s : Nat × Int32 × (Nat → Int32) × Int32 × (Nat → Int32) × (Nat → Int32) × (Nat → Int32) × (Nat → Int32)) => (41, [(0, .ref 69), (1, .int (nI n)), (2, .int (nI Rn)), (3, .int (nI s.1)), (4, .int (nI j))], [])) (fun _ (s : Nat × Int32 × (Nat → Int32) × Int32 × (Nat → Int32) × (Nat → Int32) × (Nat → Int32) × (Nat → Int32)) => zH (zb (zb (zb (zb (zb (zb v 68 (upd (upd (v 68) 26 s.2.2.2.1) 30 s.2.1)) 76 s.2.2.1) 79 s.2.2.2.2.2.2.2) 80 s.2.2.2.2.1) 81 s.2.2.2.2.2.1) 82 s.2.2.2.2.2.2.1) w t) (zl_mlayG n D Mn Gn (v 71) (v 75)) (fun _ _ => True) (fun (s : Nat × Int32 × (Nat → Int32) × Int32 × (Nat → Int32) × (Nat → Int32) × (Nat → Int32) × (Nat → Int32)) => (158, [(0, .ref 69), (1, .int (nI n)), (2, .int (nI Rn)), (3, .int (nI s.1)), (4, .int (nI (0 + Rn)))], [])) (fun (s : Nat × Int32 × (Nat → Int32) × Int32 × (Nat → Int32) × (Nat → Int32) × (Nat → Int32) × (Nat → Int32)) => zH (zb (zb (zb (zb (zb (zb v 68 (upd (upd (v 68) 26 s.2.2.2.1) 30 s.2.1)) 76 s.2.2.1) 79 s.2.2.2.2.2.2.2) 80 s.2.2.2.2.1) 81 s.2.2.2.2.2.1) 82 s.2.2.2.2.2.2.1) w t) (Rn) 0 s (fun _ _ _ _ _ => trivial) (fun j s hj1 hj2 hp q hk => ?_) (fun s hp q hk => ?_) ?_ q hk
  · obtain ⟨be, wl, row, ou, lt, lw, oo, slp⟩ := s
    show zk_T zk_mt zk_ex Ls xs zm_243 (41, [(0, .ref 69), (1, .int (nI n)), (2, .int (nI Rn)), (3, .int (nI be)), (4, .int (nI j))], []) (zH (zb (zb (zb (zb (zb (zb v 68 (upd (upd (v 68) 26 ou) 30 wl)) 76 row) 79 slp) 80 lt) 81 lw) 82 oo) w t) q
    refine zk_T.adv 2 (f' := (44, [(0, .ref 69), (1, .int (nI n)), (2, .int (nI Rn)), (3, .int (nI be)), (4, .int (nI j))], [.int (nI Rn), .int (nI j)])) (h' := zH (zb (zb (zb (zb (zb (zb v 68 (upd (upd (v 68) 26 ou) 30 wl)) 76 row) 79 slp) 80 lt) 81 lw) 82 oo) w t) rfl ?_
    refine zk_T.br (f1 := (158, [(0, .ref 69), (1, .int (nI n)), (2, .int (nI Rn)), (3, .int (nI be)), (4, .int (nI j))], [])) (f2 := (47, [(0, .ref 69), (1, .int (nI n)), (2, .int (nI Rn)), (3, .int (nI be)), (4, .int (nI j))], [])) rfl (fun c1 => absurd (of_decide_eq_true c1) (nI_ge (show j < Rn by omega) (by omega))) (fun c1 => ?_)
    refine zk_T.adv 2 (f' := (50, [(0, .ref 69), (1, .int (nI n)), (2, .int (nI Rn)), (3, .int (nI be)), (4, .int (nI j))], [.int (nI j), .ref 69])) (h' := zH (zb (zb (zb (zb (zb (zb v 68 (upd (upd (v 68) 26 ou) 30 wl)) 76 row) 79 slp) 80 lt) 81 lw) 82 oo) w t) rfl ?_
    refine zk_T.cl (v := some (.int (zr_misRow Mn Gn (v 75) j))) (h' := zH (zb (zb (zb (zb (zb (zb v 68 (upd (upd (v 68) 26 ou) 30 wl)) 76 row) 79 slp) 80 lt) 81 lw) 82 oo) w t) rfl (zs_misRow (v := (zb (zb (zb (zb (zb (zb v 68 (upd (upd (v 68) 26 ou) 30 wl)) 76 row) 79 slp) 80 lt) 81 lw) 82 oo)) (w := w) Mn hM h5 Gn hG h4 j (by omega)) ?_
    show zk_T zk_mt zk_ex Ls xs zm_243 (53, [(0, .ref 69), (1, .int (nI n)), (2, .int (nI Rn)), (3, .int (nI be)), (4, .int (nI j))], [.int (zr_misRow Mn Gn (v 75) j)]) (zH (zb (zb (zb (zb (zb (zb v 68 (upd (upd (v 68) 26 ou) 30 wl)) 76 row) 79 slp) 80 lt) 81 lw) 82 oo) w t) _
    refine zk_T.br (f1 := (56, [(0, .ref 69), (1, .int (nI n)), (2, .int (nI Rn)), (3, .int (nI be)), (4, .int (nI j))], [])) (f2 := (59, [(0, .ref 69), (1, .int (nI n)), (2, .int (nI Rn)), (3, .int (nI be)), (4, .int (nI j))], [])) rfl (fun c2 => ?_) (fun c2 => ?_)
    · have c2 : (zr_misRow Mn Gn (v 75) j) = 0 := of_decide_eq_true c2
      refine zk_T.adv 3 (f' := (41, [(0, .ref 69), (1, .int (nI n)), (2, .int (nI Rn)), (3, .int (nI be)), (4, .int ((nI j) + 1))], [])) (h' := zH (zb (zb (zb (zb (zb (zb v 68 (upd (upd (v 68) 26 ou) 30 wl)) 76 row) 79 slp) 80 lt) 81 lw) 82 oo) w t) rfl ?_
      rw [nI_1]
      simp only [zl_mlayG, if_pos c2] at hk
      exact hk
    · have c2 : ¬ ((zr_misRow Mn Gn (v 75) j) = 0) := of_decide_eq_false c2
      refine zk_T.adv 1 (f' := (60, [(0, .ref 69), (1, .int (nI n)), (2, .int (nI Rn)), (3, .int (nI be)), (4, .int (nI j))], [.ref 69])) (h' := zH (zb (zb (zb (zb (zb (zb v 68 (upd (upd (v 68) 26 ou) 30 wl)) 76 row) 79 slp) 80 lt) 81 lw) 82 oo) w t) rfl ?_
      refine zk_T.cl (v := none) (h' := zH (zb (zb (zb (zb (zb (zb v 68 (upd (upd (v 68) 26 ((zr_mbegin (v 75) row lt lw oo slp).2.1)) 30 wl)) 76 ((zr_mbegin (v 75) row lt lw oo slp).1)) 79 ((zr_mbegin (v 75) row lt lw oo slp).2.2.2.2.2)) 80 ((zr_mbegin (v 75) row lt lw oo slp).2.2.1)) 81 ((zr_mbegin (v 75) row lt lw oo slp).2.2.2.1)) 82 ((zr_mbegin (v 75) row lt lw oo slp).2.2.2.2.1)) w t) rfl (zs_mbegin (v := (zb (zb (zb (zb (zb (zb v 68 (upd (upd (v 68) 26 ou) 30 wl)) 76 row) 79 slp) 80 lt) 81 lw) 82 oo)) (w := w)) ?_
      show zk_T zk_mt zk_ex Ls xs zm_243 (63, [(0, .ref 69), (1, .int (nI n)), (2, .int (nI Rn)), (3, .int (nI be)), (4, .int (nI j))], []) (zH (zb (zb (zb (zb (zb (zb v 68 (upd (upd (v 68) 26 ((zr_mbegin (v 75) row lt lw oo slp).2.1)) 30 wl)) 76 ((zr_mbegin (v 75) row lt lw oo slp).1)) 79 ((zr_mbegin (v 75) row lt lw oo slp).2.2.2.2.2)) 80 ((zr_mbegin (v 75) row lt lw oo slp).2.2.1)) 81 ((zr_mbegin (v 75) row lt lw oo slp).2.2.2.1)) 82 ((zr_mbegin (v 75) row lt lw oo slp).2.2.2.2.1)) w t) _
      obtain ⟨bg1, hbg1⟩ : ∃ z, z = (zr_mbegin (v 75) row lt lw oo slp) := ⟨_, rfl⟩
      rw [← hbg1]
      show zk_T zk_mt zk_ex Ls xs zm_243 (63, [(0, .ref 69), (1, .int (nI n)), (2, .int (nI Rn)), (3, .int (nI be)), (4, .int (nI j))], []) (zH (zb (zb (zb (zb (zb (zb v 68 (upd (upd (v 68) 26 (bg1.2.1)) 30 wl)) 76 bg1.1) 79 bg1.2.2.2.2.2) 80 bg1.2.2.1) 81 bg1.2.2.2.1) 82 bg1.2.2.2.2.1) w t) _
      refine zk_T.adv 2 (f' := (66, [(0, .ref 69), (1, .int (nI n)), (2, .int (nI Rn)), (3, .int (nI be)), (4, .int (nI j)), (5, .int 0)], [])) (h' := zH (zb (zb (zb (zb (zb (zb v 68 (upd (upd (v 68) 26 (bg1.2.1)) 30 wl)) 76 bg1.1) 79 bg1.2.2.2.2.2) 80 bg1.2.2.1) 81 bg1.2.2.2.1) 82 bg1.2.2.2.2.1) w t) rfl ?_
      refine zl_mlayI (v := (zb (zb (zb (zb (zb (zb v 68 (upd (upd (v 68) 26 (bg1.2.1)) 30 wl)) 76 bg1.1) 79 bg1.2.2.2.2.2) 80 bg1.2.2.1) 81 bg1.2.2.2.1) 82 bg1.2.2.2.2.1)) (w := w) (t := t) Mn hM h5 Gn hG h4 n (nI Rn) (nI be) j (by omega) bg1.1 _ ?_
      show zk_T zk_mt zk_ex Ls xs zm_243 (116, [(0, .ref 69), (1, .int (nI n)), (2, .int (nI Rn)), (3, .int (nI be)), (4, .int (nI j)), (5, .int (nI (0 + Gn)))], []) (zH (zb (zb (zb (zb (zb (zb v 68 (upd (upd (v 68) 26 (bg1.2.1)) 30 wl)) 76 (zf (zl_mlayIG Mn Gn (v 75) j) Gn 0 bg1.1)) 79 bg1.2.2.2.2.2) 80 bg1.2.2.1) 81 bg1.2.2.2.1) 82 bg1.2.2.2.2.1) w t) _
      refine zk_T.adv 2 (f' := (118, [(0, .ref 69), (1, .int (nI n)), (2, .int (nI Rn)), (3, .int (nI be)), (4, .int (nI j)), (5, .int (nI (0 + Gn)))], [.int (nI n), .ref 69])) (h' := zH (zb (zb (zb (zb (zb (zb v 68 (upd (upd (v 68) 26 (bg1.2.1)) 30 wl)) 76 (zf (zl_mlayIG Mn Gn (v 75) j) Gn 0 bg1.1)) 79 bg1.2.2.2.2.2) 80 bg1.2.2.1) 81 bg1.2.2.2.1) 82 bg1.2.2.2.2.1) w t) rfl ?_
      refine zk_T.cl (v := none) (h' := zH (zb (zb (zb (zb (zb (zb v 68 (upd (upd (v 68) 26 ((zr_mgo n D Gn (v 71) bg1.2.2.2.2.2 (zf (zl_mlayIG Mn Gn (v 75) j) Gn 0 bg1.1) bg1.2.1 bg1.2.2.1 bg1.2.2.2.1 bg1.2.2.2.2.1).2.1)) 30 wl)) 76 ((zr_mgo n D Gn (v 71) bg1.2.2.2.2.2 (zf (zl_mlayIG Mn Gn (v 75) j) Gn 0 bg1.1) bg1.2.1 bg1.2.2.1 bg1.2.2.2.1 bg1.2.2.2.2.1).1)) 79 bg1.2.2.2.2.2) 80 ((zr_mgo n D Gn (v 71) bg1.2.2.2.2.2 (zf (zl_mlayIG Mn Gn (v 75) j) Gn 0 bg1.1) bg1.2.1 bg1.2.2.1 bg1.2.2.2.1 bg1.2.2.2.2.1).2.2.1)) 81 ((zr_mgo n D Gn (v 71) bg1.2.2.2.2.2 (zf (zl_mlayIG Mn Gn (v 75) j) Gn 0 bg1.1) bg1.2.1 bg1.2.2.1 bg1.2.2.2.1 bg1.2.2.2.2.1).2.2.2.1)) 82 ((zr_mgo n D Gn (v 71) bg1.2.2.2.2.2 (zf (zl_mlayIG Mn Gn (v 75) j) Gn 0 bg1.1) bg1.2.1 bg1.2.2.1 bg1.2.2.2.1 bg1.2.2.2.2.1).2.2.2.2)) w t) rfl (zs_mgoOn (v := (zb (zb (zb (zb (zb (zb v 68 (upd (upd (v 68) 26 (bg1.2.1)) 30 wl)) 76 (zf (zl_mlayIG Mn Gn (v 75) j) Gn 0 bg1.1)) 79 bg1.2.2.2.2.2) 80 bg1.2.2.1) 81 bg1.2.2.2.1) 82 bg1.2.2.2.2.1)) n (by omega) D hD h8 Gn hG h4 hev (zl_mlayI_lie h5 h4 (by rw [hbg1]; exact zr_mbegin_lie (row := row) (lt := lt) (lw := lw) (oo := oo) (slp := slp) hli h4))) ?_
      show zk_T zk_mt zk_ex Ls xs zm_243 (121, [(0, .ref 69), (1, .int (nI n)), (2, .int (nI Rn)), (3, .int (nI be)), (4, .int (nI j)), (5, .int (nI (0 + Gn)))], []) (zH (zb (zb (zb (zb (zb (zb v 68 (upd (upd (v 68) 26 ((zr_mgo n D Gn (v 71) bg1.2.2.2.2.2 (zf (zl_mlayIG Mn Gn (v 75) j) Gn 0 bg1.1) bg1.2.1 bg1.2.2.1 bg1.2.2.2.1 bg1.2.2.2.2.1).2.1)) 30 wl)) 76 ((zr_mgo n D Gn (v 71) bg1.2.2.2.2.2 (zf (zl_mlayIG Mn Gn (v 75) j) Gn 0 bg1.1) bg1.2.1 bg1.2.2.1 bg1.2.2.2.1 bg1.2.2.2.2.1).1)) 79 bg1.2.2.2.2.2) 80 ((zr_mgo n D Gn (v 71) bg1.2.2.2.2.2 (zf (zl_mlayIG Mn Gn (v 75) j) Gn 0 bg1.1) bg1.2.1 bg1.2.2.1 bg1.2.2.2.1 bg1.2.2.2.2.1).2.2.1)) 81 ((zr_mgo n D Gn (v 71) bg1.2.2.2.2.2 (zf (zl_mlayIG Mn Gn (v 75) j) Gn 0 bg1.1) bg1.2.1 bg1.2.2.1 bg1.2.2.2.1 bg1.2.2.2.2.1).2.2.2.1)) 82 ((zr_mgo n D Gn (v 71) bg1.2.2.2.2.2 (zf (zl_mlayIG Mn Gn (v 75) j) Gn 0 bg1.1) bg1.2.1 bg1.2.2.1 bg1.2.2.2.1 bg1.2.2.2.2.1).2.2.2.2)) w t) _
      obtain ⟨bg2, hbg2⟩ : ∃ z, z = (zr_mgo n D Gn (v 71) bg1.2.2.2.2.2 (zf (zl_mlayIG Mn Gn (v 75) j) Gn 0 bg1.1) bg1.2.1 bg1.2.2.1 bg1.2.2.2.1 bg1.2.2.2.2.1) := ⟨_, rfl⟩
      rw [← hbg2]
      show zk_T zk_mt zk_ex Ls xs zm_243 (121, [(0, .ref 69), (1, .int (nI n)), (2, .int (nI Rn)), (3, .int (nI be)), (4, .int (nI j)), (5, .int (nI (0 + Gn)))], []) (zH (zb (zb (zb (zb (zb (zb v 68 (upd (upd (v 68) 26 (bg2.2.1)) 30 wl)) 76 bg2.1) 79 bg1.2.2.2.2.2) 80 bg2.2.2.1) 81 bg2.2.2.2.1) 82 bg2.2.2.2.2) w t) _
      refine zk_T.adv 3 (f' := (126, [(0, .ref 69), (1, .int (nI n)), (2, .int (nI Rn)), (3, .int (nI be)), (4, .int (nI j)), (5, .int (nI (0 + Gn)))], [.ref 77, .ref 69])) (h' := zH (zb (zb (zb (zb (zb (zb v 68 (upd (upd (v 68) 26 (bg2.2.1)) 30 wl)) 76 bg2.1) 79 bg1.2.2.2.2.2) 80 bg2.2.2.1) 81 bg2.2.2.2.1) 82 bg2.2.2.2.2) w t) rfl ?_
      refine zk_T.cl (v := some (.int (zr_mworth Gn (v 71) bg2.1))) (h' := zH (zb (zb (zb (zb (zb (zb v 68 (upd (upd (v 68) 26 (bg2.2.1)) 30 wl)) 76 bg2.1) 79 bg1.2.2.2.2.2) 80 bg2.2.2.1) 81 bg2.2.2.2.1) 82 bg2.2.2.2.2) w t) rfl (zs_mworthOnT (v := (zb (zb (zb (zb (zb (zb v 68 (upd (upd (v 68) 26 (bg2.2.1)) 30 wl)) 76 bg2.1) 79 bg1.2.2.2.2.2) 80 bg2.2.2.1) 81 bg2.2.2.2.1) 82 bg2.2.2.2.2)) (w := w) Gn hG h4) ?_
      show zk_T zk_mt zk_ex Ls xs zm_243 (129, [(0, .ref 69), (1, .int (nI n)), (2, .int (nI Rn)), (3, .int (nI be)), (4, .int (nI j)), (5, .int (nI (0 + Gn)))], [.int (zr_mworth Gn (v 71) bg2.1)]) (zH (zb (zb (zb (zb (zb (zb v 68 (upd (upd (v 68) 26 (bg2.2.1)) 30 wl)) 76 bg2.1) 79 bg1.2.2.2.2.2) 80 bg2.2.2.1) 81 bg2.2.2.2.1) 82 bg2.2.2.2.2) w t) _
      refine zk_T.adv 4 (f' := (137, [(0, .ref 69), (1, .int (nI n)), (2, .int (nI Rn)), (3, .int (nI be)), (4, .int (nI j)), (5, .int (zr_mworth Gn (v 71) bg2.1))], [.int wl, .int (zr_mworth Gn (v 71) bg2.1)])) (h' := zH (zb (zb (zb (zb (zb (zb v 68 (upd (upd (v 68) 26 (bg2.2.1)) 30 wl)) 76 bg2.1) 79 bg1.2.2.2.2.2) 80 bg2.2.2.1) 81 bg2.2.2.2.1) 82 bg2.2.2.2.2) w t) rfl ?_
      refine zk_T.br (f1 := (143, [(0, .ref 69), (1, .int (nI n)), (2, .int (nI Rn)), (3, .int (nI be)), (4, .int (nI j)), (5, .int (zr_mworth Gn (v 71) bg2.1))], [])) (f2 := (140, [(0, .ref 69), (1, .int (nI n)), (2, .int (nI Rn)), (3, .int (nI be)), (4, .int (nI j)), (5, .int (zr_mworth Gn (v 71) bg2.1))], [])) rfl (fun c3 => ?_) (fun c3 => ?_)
      · have c3 : wl < (zr_mworth Gn (v 71) bg2.1) := of_decide_eq_true c3
        refine zk_T.adv 7 (f' := (41, [(0, .ref 69), (1, .int (nI n)), (2, .int (nI Rn)), (3, .int (nI j)), (4, .int ((nI j) + 1))], [])) (h' := zH (zb (zb (zb (zb (zb (zb v 68 (upd (upd (v 68) 26 bg2.2.1) 30 (zr_mworth Gn (v 71) bg2.1))) 76 bg2.1) 79 bg1.2.2.2.2.2) 80 bg2.2.2.1) 81 bg2.2.2.2.1) 82 bg2.2.2.2.2) w t) rfl ?_
        subst hbg2
        subst hbg1
        rw [nI_1]
        simp only [zl_mlayG, if_neg c2, if_pos c3] at hk
        exact hk
      · have c3 : ¬ (wl < (zr_mworth Gn (v 71) bg2.1)) := of_decide_eq_false c3
        refine zk_T.adv 3 (f' := (41, [(0, .ref 69), (1, .int (nI n)), (2, .int (nI Rn)), (3, .int (nI be)), (4, .int ((nI j) + 1))], [])) (h' := zH (zb (zb (zb (zb (zb (zb v 68 (upd (upd (v 68) 26 (bg2.2.1)) 30 wl)) 76 bg2.1) 79 bg1.2.2.2.2.2) 80 bg2.2.2.1) 81 bg2.2.2.2.1) 82 bg2.2.2.2.2) w t) rfl ?_
        subst hbg2
        subst hbg1
        rw [nI_1]
        simp only [zl_mlayG, if_neg c2, if_neg c3] at hk
        exact hk
  · obtain ⟨be, wl, row, ou, lt, lw, oo, slp⟩ := s
    show zk_T zk_mt zk_ex Ls xs zm_243 (41, [(0, .ref 69), (1, .int (nI n)), (2, .int (nI Rn)), (3, .int (nI be)), (4, .int (nI (0 + Rn)))], []) (zH (zb (zb (zb (zb (zb (zb v 68 (upd (upd (v 68) 26 ou) 30 wl)) 76 row) 79 slp) 80 lt) 81 lw) 82 oo) w t) q
    refine zk_T.adv 2 (f' := (44, [(0, .ref 69), (1, .int (nI n)), (2, .int (nI Rn)), (3, .int (nI be)), (4, .int (nI (0 + Rn)))], [.int (nI Rn), .int (nI (0 + Rn))])) (h' := zH (zb (zb (zb (zb (zb (zb v 68 (upd (upd (v 68) 26 ou) 30 wl)) 76 row) 79 slp) 80 lt) 81 lw) 82 oo) w t) rfl ?_
    refine zk_T.br (f1 := (158, [(0, .ref 69), (1, .int (nI n)), (2, .int (nI Rn)), (3, .int (nI be)), (4, .int (nI (0 + Rn)))], [])) (f2 := (47, [(0, .ref 69), (1, .int (nI n)), (2, .int (nI Rn)), (3, .int (nI be)), (4, .int (nI (0 + Rn)))], [])) rfl (fun c1 => ?_) (fun c1 => absurd (by rw [Nat.zero_add]; exact nI_le (Nat.le_refl _) (by omega)) (of_decide_eq_false c1))
    exact hk
  · exact trivial
def zr_mlay (n Rn D Mn Gn : Nat) (r st : Nat → Int32) (row : Nat → Int32) (ou : Int32) (lt lw oo slp : Nat → Int32) : Int32 × Int32 × (Nat → Int32) × Int32 × (Nat → Int32) × (Nat → Int32) × (Nat → Int32) × (Nat → Int32) := (nI ((zf (zl_mlayG n D Mn Gn (r) (st)) Rn 0 (0, (-1), row, ou, lt, lw, oo, slp)).1), (zf (zl_mlayG n D Mn Gn (r) (st)) Rn 0 (0, (-1), row, ou, lt, lw, oo, slp)).2.1, (zf (zl_mlayG n D Mn Gn (r) (st)) Rn 0 (0, (-1), row, ou, lt, lw, oo, slp)).2.2.1, (zf (zl_mlayG n D Mn Gn (r) (st)) Rn 0 (0, (-1), row, ou, lt, lw, oo, slp)).2.2.2.1, (zf (zl_mlayG n D Mn Gn (r) (st)) Rn 0 (0, (-1), row, ou, lt, lw, oo, slp)).2.2.2.2.1, (zf (zl_mlayG n D Mn Gn (r) (st)) Rn 0 (0, (-1), row, ou, lt, lw, oo, slp)).2.2.2.2.2.1, (zf (zl_mlayG n D Mn Gn (r) (st)) Rn 0 (0, (-1), row, ou, lt, lw, oo, slp)).2.2.2.2.2.2.1, (zf (zl_mlayG n D Mn Gn (r) (st)) Rn 0 (0, (-1), row, ou, lt, lw, oo, slp)).2.2.2.2.2.2.2)
/-- BasketKeepModel.layOf -/
theorem zs_mlayOf (D : Nat) (hD : v 71 1 = nI D) (h8 : D ≤ 8) (Gn : Nat) (hG : v 71 3 = nI Gn) (h4 : Gn ≤ 4) (hev : ∀ d, d < D → ¬ v 71 (7 + 2 * d) = 0) (hli : zk_lie Gn (v 75)) (Mn : Nat) (hM : v 71 2 = nI Mn) (h5 : Mn ≤ 5) (n : Nat) (hn : n ≤ 60) (Rn : Nat) (hRn : (Mn + 1) ^ Gn = Rn) (hR : Rn ≤ 1296) : zk_Cr zk_mt zk_ex Ls xs 243 [.ref 69, .int (nI n)] (zH v w t) (some (.int (zr_mlay n Rn D Mn Gn (v 71) (v 75) (v 76) (v 68 26) (v 80) (v 81) (v 82) (v 79)).1), zH (zb (zb (zb (zb (zb (zb v 68 (upd (upd (v 68) 26 ((zr_mlay n Rn D Mn Gn (v 71) (v 75) (v 76) (v 68 26) (v 80) (v 81) (v 82) (v 79)).2.2.2.1)) 30 ((zr_mlay n Rn D Mn Gn (v 71) (v 75) (v 76) (v 68 26) (v 80) (v 81) (v 82) (v 79)).2.1))) 76 ((zr_mlay n Rn D Mn Gn (v 71) (v 75) (v 76) (v 68 26) (v 80) (v 81) (v 82) (v 79)).2.2.1)) 79 ((zr_mlay n Rn D Mn Gn (v 71) (v 75) (v 76) (v 68 26) (v 80) (v 81) (v 82) (v 79)).2.2.2.2.2.2.2)) 80 ((zr_mlay n Rn D Mn Gn (v 71) (v 75) (v 76) (v 68 26) (v 80) (v 81) (v 82) (v 79)).2.2.2.2.1)) 81 ((zr_mlay n Rn D Mn Gn (v 71) (v 75) (v 76) (v 68 26) (v 80) (v 81) (v 82) (v 79)).2.2.2.2.2.1)) 82 ((zr_mlay n Rn D Mn Gn (v 71) (v 75) (v 76) (v 68 26) (v 80) (v 81) (v 82) (v 79)).2.2.2.2.2.2.1)) w t) := by
  refine zk_Cr.of (K := zm_243) rfl rfl rfl ?_
  show zk_T zk_mt zk_ex Ls xs zm_243 (0, [(0, .ref 69), (1, .int (nI n))], []) (zH v w t) _
  refine zk_T.adv 4 (f' := (4, [(0, .ref 69), (1, .int (nI n)), (2, .int 1), (3, .int 0)], [])) (h' := zH v w t) rfl ?_
  refine zl_mlayA (v := v) (w := w) (t := t) Mn hM h5 Gn hG h4 n 1 _ ?_
  rw [zl_mlayAE, Nat.one_mul, hRn]
  show zk_T zk_mt zk_ex Ls xs zm_243 (31, [(0, .ref 69), (1, .int (nI n)), (2, .int (nI Rn)), (3, .int (nI (0 + Gn)))], []) (zH v w t) _
  refine zk_T.adv 7 (f' := (41, [(0, .ref 69), (1, .int (nI n)), (2, .int (nI Rn)), (3, .int 0), (4, .int 0)], [])) (h' := zH (zb v 68 (upd (v 68) 30 (-1))) w t) rfl ?_
  refine zl_mlay (v := v) (w := w) (t := t) D hD h8 Gn hG h4 hev hli Mn hM h5 n hn Rn hR (0, (-1), v 76, (v 68 26), v 80, v 81, v 82, v 79) _ ?_
  show zk_T zk_mt zk_ex Ls xs zm_243 (158, [(0, .ref 69), (1, .int (nI n)), (2, .int (nI Rn)), (3, .int (nI ((zf (zl_mlayG n D Mn Gn (v 71) (v 75)) Rn 0 (0, (-1), v 76, (v 68 26), v 80, v 81, v 82, v 79)).1))), (4, .int (nI (0 + Rn)))], []) (zH (zb (zb (zb (zb (zb (zb v 68 (upd (upd (v 68) 26 ((zf (zl_mlayG n D Mn Gn (v 71) (v 75)) Rn 0 (0, (-1), v 76, (v 68 26), v 80, v 81, v 82, v 79)).2.2.2.1)) 30 ((zf (zl_mlayG n D Mn Gn (v 71) (v 75)) Rn 0 (0, (-1), v 76, (v 68 26), v 80, v 81, v 82, v 79)).2.1))) 76 ((zf (zl_mlayG n D Mn Gn (v 71) (v 75)) Rn 0 (0, (-1), v 76, (v 68 26), v 80, v 81, v 82, v 79)).2.2.1)) 79 ((zf (zl_mlayG n D Mn Gn (v 71) (v 75)) Rn 0 (0, (-1), v 76, (v 68 26), v 80, v 81, v 82, v 79)).2.2.2.2.2.2.2)) 80 ((zf (zl_mlayG n D Mn Gn (v 71) (v 75)) Rn 0 (0, (-1), v 76, (v 68 26), v 80, v 81, v 82, v 79)).2.2.2.2.1)) 81 ((zf (zl_mlayG n D Mn Gn (v 71) (v 75)) Rn 0 (0, (-1), v 76, (v 68 26), v 80, v 81, v 82, v 79)).2.2.2.2.2.1)) 82 ((zf (zl_mlayG n D Mn Gn (v 71) (v 75)) Rn 0 (0, (-1), v 76, (v 68 26), v 80, v 81, v 82, v 79)).2.2.2.2.2.2.1)) w t) _
  refine zk_T.adv 1 (f' := (159, [(0, .ref 69), (1, .int (nI n)), (2, .int (nI Rn)), (3, .int (nI ((zf (zl_mlayG n D Mn Gn (v 71) (v 75)) Rn 0 (0, (-1), v 76, (v 68 26), v 80, v 81, v 82, v 79)).1))), (4, .int (nI (0 + Rn)))], [.int (nI ((zf (zl_mlayG n D Mn Gn (v 71) (v 75)) Rn 0 (0, (-1), v 76, (v 68 26), v 80, v 81, v 82, v 79)).1))])) (h' := zH (zb (zb (zb (zb (zb (zb v 68 (upd (upd (v 68) 26 ((zf (zl_mlayG n D Mn Gn (v 71) (v 75)) Rn 0 (0, (-1), v 76, (v 68 26), v 80, v 81, v 82, v 79)).2.2.2.1)) 30 ((zf (zl_mlayG n D Mn Gn (v 71) (v 75)) Rn 0 (0, (-1), v 76, (v 68 26), v 80, v 81, v 82, v 79)).2.1))) 76 ((zf (zl_mlayG n D Mn Gn (v 71) (v 75)) Rn 0 (0, (-1), v 76, (v 68 26), v 80, v 81, v 82, v 79)).2.2.1)) 79 ((zf (zl_mlayG n D Mn Gn (v 71) (v 75)) Rn 0 (0, (-1), v 76, (v 68 26), v 80, v 81, v 82, v 79)).2.2.2.2.2.2.2)) 80 ((zf (zl_mlayG n D Mn Gn (v 71) (v 75)) Rn 0 (0, (-1), v 76, (v 68 26), v 80, v 81, v 82, v 79)).2.2.2.2.1)) 81 ((zf (zl_mlayG n D Mn Gn (v 71) (v 75)) Rn 0 (0, (-1), v 76, (v 68 26), v 80, v 81, v 82, v 79)).2.2.2.2.2.1)) 82 ((zf (zl_mlayG n D Mn Gn (v 71) (v 75)) Rn 0 (0, (-1), v 76, (v 68 26), v 80, v 81, v 82, v 79)).2.2.2.2.2.2.1)) w t) rfl ?_
  exact zk_T.rt rfl rfl (by simp only [zr_mlay] <;> rfl)
end Z53
