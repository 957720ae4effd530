/-! contracts: aim, follow, followBare, followIn of the four walks -/
section Z25
variable {Ls : Nat} {xs : Nat → Int32} {v : Nat → Nat → Int32} {w : Nat → Nat → Int64} {t : zk_H}
theorem zr_min60 {sp : Nat} (h : sp ≤ 60) : zr_min (nI sp) 60 = nI sp := by
  unfold zr_min
  rw [if_neg]
  exact nI_nlt h (by decide)
theorem zs_min60 (sp : Nat) (h : sp ≤ 60) : zk_Cr zk_mt zk_ex Ls xs 72 [.int (nI sp), .int 60] (zH v w t) (some (.int (nI sp)), zH v w t) := by
  have e := zs_min (v := v) (w := w) (t := t) (Ls := Ls) (xs := xs) (nI sp) 60
  rw [zr_min60 h] at e
  exact e
def zl_aimG (D : Nat) (ev fr : Nat → Int32) (yg : Int32) (j : Nat) (s : (Nat → Int32)) : (Nat → Int32) := match s with
  | sk => upd sk j (zr_strikingIn D (ev) (fr) (yg + (nI j)))
theorem zl_aimO (D : Nat) (hD : v 20 1 = nI D) (h8 : D ≤ 8) (yg : Int32) (sp : Nat) (hsp : sp ≤ 60) : ∀ (s : (Nat → Int32)) (q : Option Value × zk_H), zk_T zk_mt zk_ex Ls xs zm_98 ((fun (s : (Nat → Int32)) => ((54, [(0, .ref 44), (1, .ref 20), (4, .int (nI (1 + sp)))], []) : zk_F)) (zf (zl_aimG D (v 21) (v 22) yg) sp 1 s)) ((fun (s : (Nat → Int32)) => zH (zb (zb v 44 (upd (upd (v 44) 0 yg) 1 (nI sp))) 45 s) w t) (zf (zl_aimG D (v 21) (v 22) yg) sp 1 s)) q → zk_T zk_mt zk_ex Ls xs zm_98 (21, [(0, .ref 44), (1, .ref 20), (4, .int (nI 1))], []) (zH (zb (zb v 44 (upd (upd (v 44) 0 yg) 1 (nI sp))) 45 s) w t) q := by
  intro s q hk
  refine zk_forK (M := zm_98) (fun j (s : (Nat → Int32)) => (21, [(0, .ref 44), (1, .ref 20), (4, .int (nI j))], [])) (fun _ (s : (Nat → Int32)) => zH (zb (zb v 44 (upd (upd (v 44) 0 yg) 1 (nI sp))) 45 s) w t) (zl_aimG D (v 21) (v 22) yg) (fun _ _ => True) (fun (s : (Nat → Int32)) => (54, [(0, .ref 44), (1, .ref 20), (4, .int (nI (1 + sp)))], [])) (fun (s : (Nat → Int32)) => zH (zb (zb v 44 (upd (upd (v 44) 0 yg) 1 (nI sp))) 45 s) w t) (sp) 1 s (fun _ _ _ _ _ => trivial) (fun j s hj1 hj2 hp q hk => ?_) (fun s hp q hk => ?_) ?_ q hk
  · have hz := True.intro
    obtain ⟨sk, rfl⟩ : ∃ z, z = s := ⟨_, rfl⟩
    show zk_T zk_mt zk_ex Ls xs zm_98 (21, [(0, .ref 44), (1, .ref 20), (4, .int (nI j))], []) (zH (zb (zb v 44 (upd (upd (v 44) 0 yg) 1 (nI sp))) 45 sk) w t) q
    refine zk_T.adv 3 (f' := (27, [(0, .ref 44), (1, .ref 20), (4, .int (nI j))], [.int (nI sp), .int (nI j)])) (h' := zH (zb (zb v 44 (upd (upd (v 44) 0 yg) 1 (nI sp))) 45 sk) w t) rfl ?_
    refine zk_T.br (f1 := (54, [(0, .ref 44), (1, .ref 20), (4, .int (nI j))], [])) (f2 := (30, [(0, .ref 44), (1, .ref 20), (4, .int (nI j))], [])) rfl (fun c1 => absurd (of_decide_eq_true c1) (nI_nlt (show j ≤ sp by omega) (by omega))) (fun c1 => ?_)
    refine zk_T.adv 8 (f' := (44, [(0, .ref 44), (1, .ref 20), (4, .int (nI j))], [.int (yg + (nI j)), .ref 20, .int (nI j), .ref 45])) (h' := zH (zb (zb v 44 (upd (upd (v 44) 0 yg) 1 (nI sp))) 45 sk) w t) rfl ?_
    refine zk_T.cl (v := some (.int (zr_strikingIn D (v 21) (v 22) (yg + (nI j))))) (h' := zH (zb (zb v 44 (upd (upd (v 44) 0 yg) 1 (nI sp))) 45 sk) w t) rfl (zs_strikingIn (v := (zb (zb v 44 (upd (upd (v 44) 0 yg) 1 (nI sp))) 45 sk)) D hD h8 (yg + (nI j))) ?_
    show zk_T zk_mt zk_ex Ls xs zm_98 (47, [(0, .ref 44), (1, .ref 20), (4, .int (nI j))], [.int (zr_strikingIn D (v 21) (v 22) (yg + (nI j))), .int (nI j), .ref 45]) (zH (zb (zb v 44 (upd (upd (v 44) 0 yg) 1 (nI sp))) 45 sk) w t) _
    refine zk_T.ob (f' := (48, [(0, .ref 44), (1, .ref 20), (4, .int (nI j))], [])) (h' := zH (zb (zb v 44 (upd (upd (v 44) 0 yg) 1 (nI sp))) 45 (upd sk (nI j).toNatClampNeg (zr_strikingIn D (v 21) (v 22) (yg + (nI j))))) w t) rfl (by first | exact zk_inN (by omega) (by decide) | decide) ?_
    rw [nI_clamp (show j < 2 ^ 31 by omega)]
    refine zk_T.adv 2 (f' := (21, [(0, .ref 44), (1, .ref 20), (4, .int ((nI j) + 1))], [])) (h' := zH (zb (zb v 44 (upd (upd (v 44) 0 yg) 1 (nI sp))) 45 (upd sk j (zr_strikingIn D (v 21) (v 22) (yg + (nI j))))) w t) rfl ?_
    rw [nI_1]
    simp only [zl_aimG] at hk
    exact hk
  · have hz := True.intro
    obtain ⟨sk, rfl⟩ : ∃ z, z = s := ⟨_, rfl⟩
    show zk_T zk_mt zk_ex Ls xs zm_98 (21, [(0, .ref 44), (1, .ref 20), (4, .int (nI (1 + sp)))], []) (zH (zb (zb v 44 (upd (upd (v 44) 0 yg) 1 (nI sp))) 45 sk) w t) q
    refine zk_T.adv 3 (f' := (27, [(0, .ref 44), (1, .ref 20), (4, .int (nI (1 + sp)))], [.int (nI sp), .int (nI (1 + sp))])) (h' := zH (zb (zb v 44 (upd (upd (v 44) 0 yg) 1 (nI sp))) 45 sk) w t) rfl ?_
    refine zk_T.br (f1 := (54, [(0, .ref 44), (1, .ref 20), (4, .int (nI (1 + sp)))], [])) (f2 := (30, [(0, .ref 44), (1, .ref 20), (4, .int (nI (1 + sp)))], [])) rfl (fun c1 => ?_) (fun c1 => absurd (nI_lt (show sp < 1 + sp by omega) (by omega)) (of_decide_eq_false c1))
    exact hk
  · exact trivial
/-- BasketKeep$Walk.aim -/
theorem zs_aimO_now (D : Nat) (hD : v 20 1 = nI D) (h8 : D ≤ 8) (sp : Nat) (hsp : sp ≤ 60) : zk_Cr zk_mt zk_ex Ls xs 98 [.ref 44, .ref 20, .ref 32, .int (nI sp)] (zH v w t) (none, zH (zb (zb v 44 (upd (upd (v 44) 0 (v 32 0)) 1 (nI sp))) 45 (zf (zl_aimG D (v 21) (v 22) (v 32 0)) sp 1 (v 45))) w t) := by
  refine zk_Cr.of (K := zm_98) rfl rfl rfl ?_
  show zk_T zk_mt zk_ex Ls xs zm_98 (0, [(0, .ref 44), (1, .ref 20), (2, .ref 32), (3, .int (nI sp))], []) (zH v w t) _
  refine zk_T.adv 7 (f' := (12, [(0, .ref 44), (1, .ref 20), (2, .ref 32), (3, .int (nI sp))], [.int 60, .int (nI sp), .ref 44])) (h' := zH (zb v 44 (upd (v 44) 0 (v 32 0))) w t) rfl ?_
  refine zk_T.cl (v := some (.int (nI sp))) (h' := zH (zb v 44 (upd (v 44) 0 (v 32 0))) w t) rfl (zs_min60 sp hsp) ?_
  show zk_T zk_mt zk_ex Ls xs zm_98 (15, [(0, .ref 44), (1, .ref 20), (2, .ref 32), (3, .int (nI sp))], [.int (nI sp), .ref 44]) (zH (zb v 44 (upd (v 44) 0 (v 32 0))) w t) _
  refine zk_T.adv 3 (f' := (21, [(0, .ref 44), (1, .ref 20), (4, .int 1)], [])) (h' := zH (zb v 44 (upd (upd (v 44) 0 (v 32 0)) 1 (nI sp))) w t) rfl ?_
  refine zl_aimO D hD h8 (v 32 0) sp hsp (v 45) _ ?_
  show zk_T zk_mt zk_ex Ls xs zm_98 (54, [(0, .ref 44), (1, .ref 20), (4, .int (nI (1 + sp)))], []) (zH (zb (zb v 44 (upd (upd (v 44) 0 (v 32 0)) 1 (nI sp))) 45 (zf (zl_aimG D (v 21) (v 22) (v 32 0)) sp 1 (v 45))) w t) _
  exact zk_T.rt rfl rfl (by rfl)
/-- BasketKeep$Walk.aim -/
theorem zs_aimO_tried (D : Nat) (hD : v 20 1 = nI D) (h8 : D ≤ 8) (sp : Nat) (hsp : sp ≤ 60) : zk_Cr zk_mt zk_ex Ls xs 98 [.ref 44, .ref 20, .ref 36, .int (nI sp)] (zH v w t) (none, zH (zb (zb v 44 (upd (upd (v 44) 0 (v 36 0)) 1 (nI sp))) 45 (zf (zl_aimG D (v 21) (v 22) (v 36 0)) sp 1 (v 45))) w t) := by
  refine zk_Cr.of (K := zm_98) rfl rfl rfl ?_
  show zk_T zk_mt zk_ex Ls xs zm_98 (0, [(0, .ref 44), (1, .ref 20), (2, .ref 36), (3, .int (nI sp))], []) (zH v w t) _
  refine zk_T.adv 7 (f' := (12, [(0, .ref 44), (1, .ref 20), (2, .ref 36), (3, .int (nI sp))], [.int 60, .int (nI sp), .ref 44])) (h' := zH (zb v 44 (upd (v 44) 0 (v 36 0))) w t) rfl ?_
  refine zk_T.cl (v := some (.int (nI sp))) (h' := zH (zb v 44 (upd (v 44) 0 (v 36 0))) w t) rfl (zs_min60 sp hsp) ?_
  show zk_T zk_mt zk_ex Ls xs zm_98 (15, [(0, .ref 44), (1, .ref 20), (2, .ref 36), (3, .int (nI sp))], [.int (nI sp), .ref 44]) (zH (zb v 44 (upd (v 44) 0 (v 36 0))) w t) _
  refine zk_T.adv 3 (f' := (21, [(0, .ref 44), (1, .ref 20), (4, .int 1)], [])) (h' := zH (zb v 44 (upd (upd (v 44) 0 (v 36 0)) 1 (nI sp))) w t) rfl ?_
  refine zl_aimO D hD h8 (v 36 0) sp hsp (v 45) _ ?_
  show zk_T zk_mt zk_ex Ls xs zm_98 (54, [(0, .ref 44), (1, .ref 20), (4, .int (nI (1 + sp)))], []) (zH (zb (zb v 44 (upd (upd (v 44) 0 (v 36 0)) 1 (nI sp))) 45 (zf (zl_aimG D (v 21) (v 22) (v 36 0)) sp 1 (v 45))) w t) _
  exact zk_T.rt rfl rfl (by rfl)
def zl_followG (sk : Nat → Int32) (yg fe od ev : Int32) (j : Nat) (s : Int32 × Int32 × Int32 × Int32 × Int32) : (Int32 × Int32 × Int32 × Int32 × Int32) ⊕ Int32 × Int32 × Int32 × Int32 × Int32 × Int32 := match s with
  | (la, lt, wo, ls, kp) => if ((yg + (nI j)) - (yg + (nI j)) / 2 * 2) = 0 then if (sk j) = 0 then .inl (la, lt, wo, ls, kp) else (if ((zr_oy (sk j) la lt wo ls kp j fe ev).1) = 0 then .inr (0, (zr_oy (sk j) la lt wo ls kp j fe ev).2.1, (zr_oy (sk j) la lt wo ls kp j fe ev).2.2.1, (zr_oy (sk j) la lt wo ls kp j fe ev).2.2.2.1, (zr_oy (sk j) la lt wo ls kp j fe ev).2.2.2.2.1, (zr_oy (sk j) la lt wo ls kp j fe ev).2.2.2.2.2) else .inl ((zr_oy (sk j) la lt wo ls kp j fe ev).2.1, (zr_oy (sk j) la lt wo ls kp j fe ev).2.2.1, (zr_oy (sk j) la lt wo ls kp j fe ev).2.2.2.1, (zr_oy (sk j) la lt wo ls kp j fe ev).2.2.2.2.1, (zr_oy (sk j) la lt wo ls kp j fe ev).2.2.2.2.2)) else (if (sk j) = 0 then .inl (la, lt, wo, ls, kp) else (if ((zr_oy (sk j) la lt wo ls kp j fe od).1) = 0 then .inr (0, (zr_oy (sk j) la lt wo ls kp j fe od).2.1, (zr_oy (sk j) la lt wo ls kp j fe od).2.2.1, (zr_oy (sk j) la lt wo ls kp j fe od).2.2.2.1, (zr_oy (sk j) la lt wo ls kp j fe od).2.2.2.2.1, (zr_oy (sk j) la lt wo ls kp j fe od).2.2.2.2.2) else .inl ((zr_oy (sk j) la lt wo ls kp j fe od).2.1, (zr_oy (sk j) la lt wo ls kp j fe od).2.2.1, (zr_oy (sk j) la lt wo ls kp j fe od).2.2.2.1, (zr_oy (sk j) la lt wo ls kp j fe od).2.2.2.2.1, (zr_oy (sk j) la lt wo ls kp j fe od).2.2.2.2.2)))
theorem zl_followO (sp : Nat) (hs : v 44 1 = nI sp) (hsp : sp ≤ 60) (fe od ev : Int32) : ∀ (s : Int32 × Int32 × Int32 × Int32 × Int32) (q : Option Value × zk_H), zk_or (fun (s : Int32 × Int32 × Int32 × Int32 × Int32) => zk_T zk_mt zk_ex Ls xs zm_159 (101, [(0, .ref 44), (1, .int fe), (3, .int od), (4, .int ev), (5, .int (nI (1 + sp)))], []) (zH (zb v 44 (upd (upd (upd (upd (upd (v 44) 3 s.1) 4 s.2.1) 5 s.2.2.1) 6 s.2.2.2.1) 7 s.2.2.2.2)) w t) q) (fun (r : Int32 × Int32 × Int32 × Int32 × Int32 × Int32) => (some (.int r.1), zH (zb v 44 (upd (upd (upd (upd (upd (v 44) 3 r.2.1) 4 r.2.2.1) 5 r.2.2.2.1) 6 r.2.2.2.2.1) 7 r.2.2.2.2.2)) w t) = q) (zfr (zl_followG (v 45) (v 44 0) fe od ev) sp 1 s) → zk_T zk_mt zk_ex Ls xs zm_159 (42, [(0, .ref 44), (1, .int fe), (3, .int od), (4, .int ev), (5, .int (nI 1))], []) (zH (zb v 44 (upd (upd (upd (upd (upd (v 44) 3 s.1) 4 s.2.1) 5 s.2.2.1) 6 s.2.2.2.1) 7 s.2.2.2.2)) w t) q := by
  intro s q hk
  refine zk_forX (M := zm_159) (fun j (s : Int32 × Int32 × Int32 × Int32 × Int32) => (42, [(0, .ref 44), (1, .int fe), (3, .int od), (4, .int ev), (5, .int (nI j))], [])) (fun _ (s : Int32 × Int32 × Int32 × Int32 × Int32) => zH (zb v 44 (upd (upd (upd (upd (upd (v 44) 3 s.1) 4 s.2.1) 5 s.2.2.1) 6 s.2.2.2.1) 7 s.2.2.2.2)) w t) (zl_followG (v 45) (v 44 0) fe od ev) (fun _ _ => True) (fun (s : Int32 × Int32 × Int32 × Int32 × Int32) => (101, [(0, .ref 44), (1, .int fe), (3, .int od), (4, .int ev), (5, .int (nI (1 + sp)))], [])) (fun (s : Int32 × Int32 × Int32 × Int32 × Int32) => zH (zb v 44 (upd (upd (upd (upd (upd (v 44) 3 s.1) 4 s.2.1) 5 s.2.2.1) 6 s.2.2.2.1) 7 s.2.2.2.2)) w t) (fun r q => (some (.int r.1), zH (zb v 44 (upd (upd (upd (upd (upd (v 44) 3 r.2.1) 4 r.2.2.1) 5 r.2.2.2.1) 6 r.2.2.2.2.1) 7 r.2.2.2.2.2)) w t) = q) (sp) 1 s (fun _ _ _ _ _ _ _ => trivial) (fun j s hj1 hj2 hp q hk => ?_) (fun s hp q hk => ?_) ?_ q hk
  · obtain ⟨la, lt, wo, ls, kp⟩ := s
    show zk_T zk_mt zk_ex Ls xs zm_159 (42, [(0, .ref 44), (1, .int fe), (3, .int od), (4, .int ev), (5, .int (nI j))], []) (zH (zb v 44 (upd (upd (upd (upd (upd (v 44) 3 la) 4 lt) 5 wo) 6 ls) 7 kp)) w t) q
    refine zk_T.adv 3 (f' := (48, [(0, .ref 44), (1, .int fe), (3, .int od), (4, .int ev), (5, .int (nI j))], [.int (v 44 1), .int (nI j)])) (h' := zH (zb v 44 (upd (upd (upd (upd (upd (v 44) 3 la) 4 lt) 5 wo) 6 ls) 7 kp)) w t) rfl ?_
    refine zk_T.br (f1 := (101, [(0, .ref 44), (1, .int fe), (3, .int od), (4, .int ev), (5, .int (nI j))], [])) (f2 := (51, [(0, .ref 44), (1, .int fe), (3, .int od), (4, .int ev), (5, .int (nI j))], [])) rfl (fun c1 => absurd (of_decide_eq_true c1) (by rw [hs]; exact nI_nlt (show j ≤ sp by omega) (by omega))) (fun c1 => ?_)
    refine zk_T.adv 5 (f' := (59, [(0, .ref 44), (1, .int fe), (3, .int od), (4, .int ev), (5, .int (nI j))], [.int 2, .int ((v 44 0) + (nI j))])) (h' := zH (zb v 44 (upd (upd (upd (upd (upd (v 44) 3 la) 4 lt) 5 wo) 6 ls) 7 kp)) w t) rfl ?_
    refine zk_T.ob (f' := (60, [(0, .ref 44), (1, .int fe), (3, .int od), (4, .int ev), (5, .int (nI j))], [.int (((v 44 0) + (nI j)) - ((v 44 0) + (nI j)) / 2 * 2)])) (h' := zH (zb v 44 (upd (upd (upd (upd (upd (v 44) 3 la) 4 lt) 5 wo) 6 ls) 7 kp)) w t) rfl (by decide) ?_
    refine zk_T.br (f1 := (63, [(0, .ref 44), (1, .int fe), (3, .int od), (4, .int ev), (5, .int (nI j))], [])) (f2 := (68, [(0, .ref 44), (1, .int fe), (3, .int od), (4, .int ev), (5, .int (nI j))], [])) rfl (fun c2 => ?_) (fun c2 => ?_)
    · have c2 : (((v 44 0) + (nI j)) - ((v 44 0) + (nI j)) / 2 * 2) = 0 := of_decide_eq_true c2
      refine zk_T.adv 6 (f' := (77, [(0, .ref 44), (1, .int fe), (3, .int od), (4, .int ev), (5, .int (nI j)), (6, .int ev)], [.int (nI j), .ref 45])) (h' := zH (zb v 44 (upd (upd (upd (upd (upd (v 44) 3 la) 4 lt) 5 wo) 6 ls) 7 kp)) w t) rfl ?_
      refine zk_T.ob (f' := (78, [(0, .ref 44), (1, .int fe), (3, .int od), (4, .int ev), (5, .int (nI j)), (6, .int ev)], [.int (v 45 (nI j).toNatClampNeg)])) (h' := zH (zb v 44 (upd (upd (upd (upd (upd (v 44) 3 la) 4 lt) 5 wo) 6 ls) 7 kp)) w t) rfl (by first | exact zk_inN (by omega) (by decide) | decide) ?_
      rw [nI_clamp (show j < 2 ^ 31 by omega)]
      refine zk_T.br (f1 := (95, [(0, .ref 44), (1, .int fe), (3, .int od), (4, .int ev), (5, .int (nI j)), (6, .int ev)], [])) (f2 := (81, [(0, .ref 44), (1, .int fe), (3, .int od), (4, .int ev), (5, .int (nI j)), (6, .int ev)], [])) rfl (fun c3 => ?_) (fun c3 => ?_)
      · have c3 : (v 45 j) = 0 := of_decide_eq_true c3
        refine zk_T.adv 2 (f' := (42, [(0, .ref 44), (1, .int fe), (3, .int od), (4, .int ev), (5, .int ((nI j) + 1))], [])) (h' := zH (zb v 44 (upd (upd (upd (upd (upd (v 44) 3 la) 4 lt) 5 wo) 6 ls) 7 kp)) w t) rfl ?_
        rw [nI_1]
        simp only [zl_followG, zk_or, if_pos c2, if_pos c3] at hk
        exact hk
      · have c3 : ¬ ((v 45 j) = 0) := of_decide_eq_false c3
        refine zk_T.adv 4 (f' := (87, [(0, .ref 44), (1, .int fe), (3, .int od), (4, .int ev), (5, .int (nI j)), (6, .int ev)], [.int ev, .int fe, .int (nI j), .ref 44])) (h' := zH (zb v 44 (upd (upd (upd (upd (upd (v 44) 3 la) 4 lt) 5 wo) 6 ls) 7 kp)) w t) rfl ?_
        refine zk_T.cl (v := some (.int ((zr_oy (v 45 j) la lt wo ls kp j fe ev).1))) (h' := zH (zb v 44 (upd (upd (upd (upd (upd (v 44) 3 ((zr_oy (v 45 j) la lt wo ls kp j fe ev).2.1)) 4 ((zr_oy (v 45 j) la lt wo ls kp j fe ev).2.2.1)) 5 ((zr_oy (v 45 j) la lt wo ls kp j fe ev).2.2.2.1)) 6 ((zr_oy (v 45 j) la lt wo ls kp j fe ev).2.2.2.2.1)) 7 ((zr_oy (v 45 j) la lt wo ls kp j fe ev).2.2.2.2.2))) w t) rfl (zs_oyO j (by omega) fe ev) ?_
        show zk_T zk_mt zk_ex Ls xs zm_159 (90, [(0, .ref 44), (1, .int fe), (3, .int od), (4, .int ev), (5, .int (nI j)), (6, .int ev)], [.int ((zr_oy (v 45 j) la lt wo ls kp j fe ev).1)]) (zH (zb v 44 (upd (upd (upd (upd (upd (v 44) 3 ((zr_oy (v 45 j) la lt wo ls kp j fe ev).2.1)) 4 ((zr_oy (v 45 j) la lt wo ls kp j fe ev).2.2.1)) 5 ((zr_oy (v 45 j) la lt wo ls kp j fe ev).2.2.2.1)) 6 ((zr_oy (v 45 j) la lt wo ls kp j fe ev).2.2.2.2.1)) 7 ((zr_oy (v 45 j) la lt wo ls kp j fe ev).2.2.2.2.2))) w t) _
        refine zk_T.br (f1 := (93, [(0, .ref 44), (1, .int fe), (3, .int od), (4, .int ev), (5, .int (nI j)), (6, .int ev)], [])) (f2 := (95, [(0, .ref 44), (1, .int fe), (3, .int od), (4, .int ev), (5, .int (nI j)), (6, .int ev)], [])) rfl (fun c4 => ?_) (fun c4 => ?_)
        · have c4 : ((zr_oy (v 45 j) la lt wo ls kp j fe ev).1) = 0 := of_decide_eq_true c4
          refine zk_T.adv 1 (f' := (94, [(0, .ref 44), (1, .int fe), (3, .int od), (4, .int ev), (5, .int (nI j)), (6, .int ev)], [.int 0])) (h' := zH (zb v 44 (upd (upd (upd (upd (upd (v 44) 3 ((zr_oy (v 45 j) la lt wo ls kp j fe ev).2.1)) 4 ((zr_oy (v 45 j) la lt wo ls kp j fe ev).2.2.1)) 5 ((zr_oy (v 45 j) la lt wo ls kp j fe ev).2.2.2.1)) 6 ((zr_oy (v 45 j) la lt wo ls kp j fe ev).2.2.2.2.1)) 7 ((zr_oy (v 45 j) la lt wo ls kp j fe ev).2.2.2.2.2))) w t) rfl ?_
          simp only [zl_followG, zk_or, if_pos c2, if_neg c3, if_pos c4] at hk
          exact zk_T.rt rfl rfl hk
        · have c4 : ¬ (((zr_oy (v 45 j) la lt wo ls kp j fe ev).1) = 0) := of_decide_eq_false c4
          refine zk_T.adv 2 (f' := (42, [(0, .ref 44), (1, .int fe), (3, .int od), (4, .int ev), (5, .int ((nI j) + 1))], [])) (h' := zH (zb v 44 (upd (upd (upd (upd (upd (v 44) 3 ((zr_oy (v 45 j) la lt wo ls kp j fe ev).2.1)) 4 ((zr_oy (v 45 j) la lt wo ls kp j fe ev).2.2.1)) 5 ((zr_oy (v 45 j) la lt wo ls kp j fe ev).2.2.2.1)) 6 ((zr_oy (v 45 j) la lt wo ls kp j fe ev).2.2.2.2.1)) 7 ((zr_oy (v 45 j) la lt wo ls kp j fe ev).2.2.2.2.2))) w t) rfl ?_
          rw [nI_1]
          simp only [zl_followG, zk_or, if_pos c2, if_neg c3, if_neg c4] at hk
          exact hk
    · have c2 : ¬ ((((v 44 0) + (nI j)) - ((v 44 0) + (nI j)) / 2 * 2) = 0) := of_decide_eq_false c2
      refine zk_T.adv 5 (f' := (77, [(0, .ref 44), (1, .int fe), (3, .int od), (4, .int ev), (5, .int (nI j)), (6, .int od)], [.int (nI j), .ref 45])) (h' := zH (zb v 44 (upd (upd (upd (upd (upd (v 44) 3 la) 4 lt) 5 wo) 6 ls) 7 kp)) w t) rfl ?_
      refine zk_T.ob (f' := (78, [(0, .ref 44), (1, .int fe), (3, .int od), (4, .int ev), (5, .int (nI j)), (6, .int od)], [.int (v 45 (nI j).toNatClampNeg)])) (h' := zH (zb v 44 (upd (upd (upd (upd (upd (v 44) 3 la) 4 lt) 5 wo) 6 ls) 7 kp)) w t) rfl (by first | exact zk_inN (by omega) (by decide) | decide) ?_
      rw [nI_clamp (show j < 2 ^ 31 by omega)]
      refine zk_T.br (f1 := (95, [(0, .ref 44), (1, .int fe), (3, .int od), (4, .int ev), (5, .int (nI j)), (6, .int od)], [])) (f2 := (81, [(0, .ref 44), (1, .int fe), (3, .int od), (4, .int ev), (5, .int (nI j)), (6, .int od)], [])) rfl (fun c5 => ?_) (fun c5 => ?_)
      · have c5 : (v 45 j) = 0 := of_decide_eq_true c5
        refine zk_T.adv 2 (f' := (42, [(0, .ref 44), (1, .int fe), (3, .int od), (4, .int ev), (5, .int ((nI j) + 1))], [])) (h' := zH (zb v 44 (upd (upd (upd (upd (upd (v 44) 3 la) 4 lt) 5 wo) 6 ls) 7 kp)) w t) rfl ?_
        rw [nI_1]
        simp only [zl_followG, zk_or, if_neg c2, if_pos c5] at hk
        exact hk
      · have c5 : ¬ ((v 45 j) = 0) := of_decide_eq_false c5
        refine zk_T.adv 4 (f' := (87, [(0, .ref 44), (1, .int fe), (3, .int od), (4, .int ev), (5, .int (nI j)), (6, .int od)], [.int od, .int fe, .int (nI j), .ref 44])) (h' := zH (zb v 44 (upd (upd (upd (upd (upd (v 44) 3 la) 4 lt) 5 wo) 6 ls) 7 kp)) w t) rfl ?_
        refine zk_T.cl (v := some (.int ((zr_oy (v 45 j) la lt wo ls kp j fe od).1))) (h' := zH (zb v 44 (upd (upd (upd (upd (upd (v 44) 3 ((zr_oy (v 45 j) la lt wo ls kp j fe od).2.1)) 4 ((zr_oy (v 45 j) la lt wo ls kp j fe od).2.2.1)) 5 ((zr_oy (v 45 j) la lt wo ls kp j fe od).2.2.2.1)) 6 ((zr_oy (v 45 j) la lt wo ls kp j fe od).2.2.2.2.1)) 7 ((zr_oy (v 45 j) la lt wo ls kp j fe od).2.2.2.2.2))) w t) rfl (zs_oyO j (by omega) fe od) ?_
        show zk_T zk_mt zk_ex Ls xs zm_159 (90, [(0, .ref 44), (1, .int fe), (3, .int od), (4, .int ev), (5, .int (nI j)), (6, .int od)], [.int ((zr_oy (v 45 j) la lt wo ls kp j fe od).1)]) (zH (zb v 44 (upd (upd (upd (upd (upd (v 44) 3 ((zr_oy (v 45 j) la lt wo ls kp j fe od).2.1)) 4 ((zr_oy (v 45 j) la lt wo ls kp j fe od).2.2.1)) 5 ((zr_oy (v 45 j) la lt wo ls kp j fe od).2.2.2.1)) 6 ((zr_oy (v 45 j) la lt wo ls kp j fe od).2.2.2.2.1)) 7 ((zr_oy (v 45 j) la lt wo ls kp j fe od).2.2.2.2.2))) w t) _
        refine zk_T.br (f1 := (93, [(0, .ref 44), (1, .int fe), (3, .int od), (4, .int ev), (5, .int (nI j)), (6, .int od)], [])) (f2 := (95, [(0, .ref 44), (1, .int fe), (3, .int od), (4, .int ev), (5, .int (nI j)), (6, .int od)], [])) rfl (fun c6 => ?_) (fun c6 => ?_)
        · have c6 : ((zr_oy (v 45 j) la lt wo ls kp j fe od).1) = 0 := of_decide_eq_true c6
          refine zk_T.adv 1 (f' := (94, [(0, .ref 44), (1, .int fe), (3, .int od), (4, .int ev), (5, .int (nI j)), (6, .int od)], [.int 0])) (h' := zH (zb v 44 (upd (upd (upd (upd (upd (v 44) 3 ((zr_oy (v 45 j) la lt wo ls kp j fe od).2.1)) 4 ((zr_oy (v 45 j) la lt wo ls kp j fe od).2.2.1)) 5 ((zr_oy (v 45 j) la lt wo ls kp j fe od).2.2.2.1)) 6 ((zr_oy (v 45 j) la lt wo ls kp j fe od).2.2.2.2.1)) 7 ((zr_oy (v 45 j) la lt wo ls kp j fe od).2.2.2.2.2))) w t) rfl ?_
          simp only [zl_followG, zk_or, if_neg c2, if_neg c5, if_pos c6] at hk
          exact zk_T.rt rfl rfl hk
        · have c6 : ¬ (((zr_oy (v 45 j) la lt wo ls kp j fe od).1) = 0) := of_decide_eq_false c6
          refine zk_T.adv 2 (f' := (42, [(0, .ref 44), (1, .int fe), (3, .int od), (4, .int ev), (5, .int ((nI j) + 1))], [])) (h' := zH (zb v 44 (upd (upd (upd (upd (upd (v 44) 3 ((zr_oy (v 45 j) la lt wo ls kp j fe od).2.1)) 4 ((zr_oy (v 45 j) la lt wo ls kp j fe od).2.2.1)) 5 ((zr_oy (v 45 j) la lt wo ls kp j fe od).2.2.2.1)) 6 ((zr_oy (v 45 j) la lt wo ls kp j fe od).2.2.2.2.1)) 7 ((zr_oy (v 45 j) la lt wo ls kp j fe od).2.2.2.2.2))) w t) rfl ?_
          rw [nI_1]
          simp only [zl_followG, zk_or, if_neg c2, if_neg c5, if_neg c6] at hk
          exact hk
  · obtain ⟨la, lt, wo, ls, kp⟩ := s
    show zk_T zk_mt zk_ex Ls xs zm_159 (42, [(0, .ref 44), (1, .int fe), (3, .int od), (4, .int ev), (5, .int (nI (1 + sp)))], []) (zH (zb v 44 (upd (upd (upd (upd (upd (v 44) 3 la) 4 lt) 5 wo) 6 ls) 7 kp)) w t) q
    refine zk_T.adv 3 (f' := (48, [(0, .ref 44), (1, .int fe), (3, .int od), (4, .int ev), (5, .int (nI (1 + sp)))], [.int (v 44 1), .int (nI (1 + sp))])) (h' := zH (zb v 44 (upd (upd (upd (upd (upd (v 44) 3 la) 4 lt) 5 wo) 6 ls) 7 kp)) w t) rfl ?_
    refine zk_T.br (f1 := (101, [(0, .ref 44), (1, .int fe), (3, .int od), (4, .int ev), (5, .int (nI (1 + sp)))], [])) (f2 := (51, [(0, .ref 44), (1, .int fe), (3, .int od), (4, .int ev), (5, .int (nI (1 + sp)))], [])) rfl (fun c1 => ?_) (fun c1 => absurd (by rw [hs]; exact nI_lt (show sp < 1 + sp by omega) (by omega)) (of_decide_eq_false c1))
    exact hk
  · exact trivial
def zr_follow (sk : Nat → Int32) (yg : Int32) (sp : Nat) (fe l0 od ev : Int32) : Int32 × Int32 × Int32 × Int32 × Int32 × Int32 := if l0 ≤ 0 then match zfr (zl_followG (sk) yg fe od ev) sp 1 ((-2), (-2), 0, l0, 0) with | .inl s => (1, s.1, s.2.1, s.2.2.1, s.2.2.2.1, s.2.2.2.2) | .inr r => r else match zfr (zl_followG (sk) yg fe od ev) sp 1 ((-2), (-2), (-2), l0, 0) with | .inl s => (1, s.1, s.2.1, s.2.2.1, s.2.2.2.1, s.2.2.2.2) | .inr r => r
/-- BasketKeep$Walk.follow -/
theorem zs_followO (sp : Nat) (hs : v 44 1 = nI sp) (hsp : sp ≤ 60) (fe l0 od ev : Int32) : zk_Cr zk_mt zk_ex Ls xs 159 [.ref 44, .int fe, .int l0, .int od, .int ev] (zH v w t) (some (.int (zr_follow (v 45) (v 44 0) sp fe l0 od ev).1), zH (zb v 44 (upd (upd (upd (upd (upd (v 44) 3 ((zr_follow (v 45) (v 44 0) sp fe l0 od ev).2.1)) 4 ((zr_follow (v 45) (v 44 0) sp fe l0 od ev).2.2.1)) 5 ((zr_follow (v 45) (v 44 0) sp fe l0 od ev).2.2.2.1)) 6 ((zr_follow (v 45) (v 44 0) sp fe l0 od ev).2.2.2.2.1)) 7 ((zr_follow (v 45) (v 44 0) sp fe l0 od ev).2.2.2.2.2))) w t) := by
  refine zk_Cr.of (K := zm_159) rfl rfl rfl ?_
  show zk_T zk_mt zk_ex Ls xs zm_159 (0, [(0, .ref 44), (1, .int fe), (2, .int l0), (3, .int od), (4, .int ev)], []) (zH v w t) _
  refine zk_T.adv 15 (f' := (27, [(0, .ref 44), (1, .int fe), (2, .int l0), (3, .int od), (4, .int ev)], [.int l0, .ref 44])) (h' := zH (zb v 44 (upd (upd (upd (upd (v 44) 3 (-2)) 4 (-2)) 6 l0) 7 0)) w t) rfl ?_
  refine zk_T.br (f1 := (35, [(0, .ref 44), (1, .int fe), (2, .int l0), (3, .int od), (4, .int ev)], [.ref 44])) (f2 := (30, [(0, .ref 44), (1, .int fe), (2, .int l0), (3, .int od), (4, .int ev)], [.ref 44])) rfl (fun c1 => ?_) (fun c1 => ?_)
  · have c1 : l0 ≤ 0 := of_decide_eq_true c1
    refine zk_T.adv 4 (f' := (42, [(0, .ref 44), (1, .int fe), (3, .int od), (4, .int ev), (5, .int 1)], [])) (h' := zH (zb v 44 (upd (upd (upd (upd (upd (v 44) 3 (-2)) 4 (-2)) 5 0) 6 l0) 7 0)) w t) rfl ?_
    refine zl_followO sp hs hsp fe od ev ((-2), (-2), 0, l0, 0) _ ?_
    cases z2 : zfr (zl_followG (v 45) (v 44 0) fe od ev) sp 1 ((-2), (-2), 0, l0, 0) with
    | inl s =>
      show zk_T zk_mt zk_ex Ls xs zm_159 (101, [(0, .ref 44), (1, .int fe), (3, .int od), (4, .int ev), (5, .int (nI (1 + sp)))], []) (zH (zb v 44 (upd (upd (upd (upd (upd (v 44) 3 s.1) 4 s.2.1) 5 s.2.2.1) 6 s.2.2.2.1) 7 s.2.2.2.2)) w t) _
      refine zk_T.adv 1 (f' := (102, [(0, .ref 44), (1, .int fe), (3, .int od), (4, .int ev), (5, .int (nI (1 + sp)))], [.int 1])) (h' := zH (zb v 44 (upd (upd (upd (upd (upd (v 44) 3 s.1) 4 s.2.1) 5 s.2.2.1) 6 s.2.2.2.1) 7 s.2.2.2.2)) w t) rfl ?_
      exact zk_T.rt rfl rfl (by simp only [zr_follow, if_pos c1, z2] <;> rfl)
    | inr r =>
      show ((some (Value.int r.1), zH (zb v 44 (upd (upd (upd (upd (upd (v 44) 3 r.2.1) 4 r.2.2.1) 5 r.2.2.2.1) 6 r.2.2.2.2.1) 7 r.2.2.2.2.2)) w t) : Option Value × zk_H) = _
      simp only [zr_follow, if_pos c1, z2] <;> rfl
  · have c1 : ¬ (l0 ≤ 0) := of_decide_eq_false c1
    refine zk_T.adv 5 (f' := (42, [(0, .ref 44), (1, .int fe), (3, .int od), (4, .int ev), (5, .int 1)], [])) (h' := zH (zb v 44 (upd (upd (upd (upd (upd (v 44) 3 (-2)) 4 (-2)) 5 (-2)) 6 l0) 7 0)) w t) rfl ?_
    refine zl_followO sp hs hsp fe od ev ((-2), (-2), (-2), l0, 0) _ ?_
    cases z3 : zfr (zl_followG (v 45) (v 44 0) fe od ev) sp 1 ((-2), (-2), (-2), l0, 0) with
    | inl s =>
      show zk_T zk_mt zk_ex Ls xs zm_159 (101, [(0, .ref 44), (1, .int fe), (3, .int od), (4, .int ev), (5, .int (nI (1 + sp)))], []) (zH (zb v 44 (upd (upd (upd (upd (upd (v 44) 3 s.1) 4 s.2.1) 5 s.2.2.1) 6 s.2.2.2.1) 7 s.2.2.2.2)) w t) _
      refine zk_T.adv 1 (f' := (102, [(0, .ref 44), (1, .int fe), (3, .int od), (4, .int ev), (5, .int (nI (1 + sp)))], [.int 1])) (h' := zH (zb v 44 (upd (upd (upd (upd (upd (v 44) 3 s.1) 4 s.2.1) 5 s.2.2.1) 6 s.2.2.2.1) 7 s.2.2.2.2)) w t) rfl ?_
      exact zk_T.rt rfl rfl (by simp only [zr_follow, if_neg c1, z3] <;> rfl)
    | inr r =>
      show ((some (Value.int r.1), zH (zb v 44 (upd (upd (upd (upd (upd (v 44) 3 r.2.1) 4 r.2.2.1) 5 r.2.2.2.1) 6 r.2.2.2.2.1) 7 r.2.2.2.2.2)) w t) : Option Value × zk_H) = _
      simp only [zr_follow, if_neg c1, z3] <;> rfl
theorem zfr_inr {σ ρ : Type} {G : Nat → σ → σ ⊕ ρ} {P : ρ → Prop} (h : ∀ j s r, G j s = .inr r → P r) : ∀ (n i : Nat) (s : σ) (r : ρ), zfr G n i s = .inr r → P r
  | 0, i, s, r, e => by simp [zfr] at e
  | n + 1, i, s, r, e => by
    unfold zfr at e
    split at e
    · exact zfr_inr h n (i + 1) _ r e
    · rename_i r' hg
      have e2 : r' = r := Sum.inr.inj e
      rw [← e2]
      exact h i s r' hg
theorem zr_follow01 (sk : Nat → Int32) (yg : Int32) (sp : Nat) (fe l0 od ev : Int32) : (zr_follow sk yg sp fe l0 od ev).1 = 0 ∨ (zr_follow sk yg sp fe l0 od ev).1 = 1 := by
  have key : ∀ (n i : Nat) s r, zfr (zl_followG sk yg fe od ev) n i s = .inr r → r.1 = 0 := by
    refine zfr_inr (P := fun (r : Int32 × Int32 × Int32 × Int32 × Int32 × Int32) => r.1 = 0) ?_
    intro j s r hg
    unfold zl_followG at hg
    repeat' split at hg
    all_goals first | (cases hg; rfl) | (cases hg; done) | (cases hg)
  unfold zr_follow
  repeat' split
  all_goals first | exact Or.inr rfl | (rename_i hr; exact Or.inl (key _ _ _ _ hr))
/-- BasketKeep$Walk.followBare -/
theorem zs_followBareO (sp : Nat) (hs : v 44 1 = nI sp) (hsp : sp ≤ 60) (fe : Int32) : zk_Cr zk_mt zk_ex Ls xs 206 [.ref 44, .int fe] (zH v w t) (some (.int ((zr_follow (v 45) (v 44 0) sp fe 0 0 0).1)), zH (zb v 44 (upd (upd (upd (upd (upd (v 44) 3 ((zr_follow (v 45) (v 44 0) sp fe 0 0 0).2.1)) 4 ((zr_follow (v 45) (v 44 0) sp fe 0 0 0).2.2.1)) 5 ((zr_follow (v 45) (v 44 0) sp fe 0 0 0).2.2.2.1)) 6 ((zr_follow (v 45) (v 44 0) sp fe 0 0 0).2.2.2.2.1)) 7 ((zr_follow (v 45) (v 44 0) sp fe 0 0 0).2.2.2.2.2))) w t) := by
  refine zk_Cr.of (K := zm_206) rfl rfl rfl ?_
  show zk_T zk_mt zk_ex Ls xs zm_206 (0, [(0, .ref 44), (1, .int fe)], []) (zH v w t) _
  refine zk_T.adv 5 (f' := (5, [(0, .ref 44), (1, .int fe)], [.int 0, .int 0, .int 0, .int fe, .ref 44])) (h' := zH v w t) rfl ?_
  refine zk_T.cl (v := some (.int ((zr_follow (v 45) (v 44 0) sp fe 0 0 0).1))) (h' := zH (zb v 44 (upd (upd (upd (upd (upd (v 44) 3 ((zr_follow (v 45) (v 44 0) sp fe 0 0 0).2.1)) 4 ((zr_follow (v 45) (v 44 0) sp fe 0 0 0).2.2.1)) 5 ((zr_follow (v 45) (v 44 0) sp fe 0 0 0).2.2.2.1)) 6 ((zr_follow (v 45) (v 44 0) sp fe 0 0 0).2.2.2.2.1)) 7 ((zr_follow (v 45) (v 44 0) sp fe 0 0 0).2.2.2.2.2))) w t) rfl (zs_followO (v := v) sp hs hsp fe 0 0 0) ?_
  show zk_T zk_mt zk_ex Ls xs zm_206 (8, [(0, .ref 44), (1, .int fe)], [.int ((zr_follow (v 45) (v 44 0) sp fe 0 0 0).1)]) (zH (zb v 44 (upd (upd (upd (upd (upd (v 44) 3 ((zr_follow (v 45) (v 44 0) sp fe 0 0 0).2.1)) 4 ((zr_follow (v 45) (v 44 0) sp fe 0 0 0).2.2.1)) 5 ((zr_follow (v 45) (v 44 0) sp fe 0 0 0).2.2.2.1)) 6 ((zr_follow (v 45) (v 44 0) sp fe 0 0 0).2.2.2.2.1)) 7 ((zr_follow (v 45) (v 44 0) sp fe 0 0 0).2.2.2.2.2))) w t) _
  exact zk_T.rt rfl (decide_eq_true (zr_follow01 _ _ _ _ _ _ _)) (by rfl)
/-- BasketKeep$Walk.followIn -/
theorem zs_followInO_now (sp : Nat) (hs : v 44 1 = nI sp) (hsp : sp ≤ 60) (a e : Nat) (ha : a < 4) (he : e < 5) (hke : v 23 e = 0 ∨ v 23 e = 1 ∨ v 23 e = 2) (th sl : Int32) : zk_Cr zk_mt zk_ex Ls xs 207 [.ref 44, .ref 20, .ref 32, .int (nI a), .int (nI e), .int th, .int sl] (zH v w t) (some (.int ((zr_follow (v 45) (v 44 0) sp (v 27 a) (v 35 e) ((zr_heldOff (v 23 e) th 1) &&& (sl ^^^ (-1))) ((zr_heldOff (v 23 e) th 2) &&& (sl ^^^ (-1)))).1)), zH (zb v 44 (upd (upd (upd (upd (upd (v 44) 3 ((zr_follow (v 45) (v 44 0) sp (v 27 a) (v 35 e) ((zr_heldOff (v 23 e) th 1) &&& (sl ^^^ (-1))) ((zr_heldOff (v 23 e) th 2) &&& (sl ^^^ (-1)))).2.1)) 4 ((zr_follow (v 45) (v 44 0) sp (v 27 a) (v 35 e) ((zr_heldOff (v 23 e) th 1) &&& (sl ^^^ (-1))) ((zr_heldOff (v 23 e) th 2) &&& (sl ^^^ (-1)))).2.2.1)) 5 ((zr_follow (v 45) (v 44 0) sp (v 27 a) (v 35 e) ((zr_heldOff (v 23 e) th 1) &&& (sl ^^^ (-1))) ((zr_heldOff (v 23 e) th 2) &&& (sl ^^^ (-1)))).2.2.2.1)) 6 ((zr_follow (v 45) (v 44 0) sp (v 27 a) (v 35 e) ((zr_heldOff (v 23 e) th 1) &&& (sl ^^^ (-1))) ((zr_heldOff (v 23 e) th 2) &&& (sl ^^^ (-1)))).2.2.2.2.1)) 7 ((zr_follow (v 45) (v 44 0) sp (v 27 a) (v 35 e) ((zr_heldOff (v 23 e) th 1) &&& (sl ^^^ (-1))) ((zr_heldOff (v 23 e) th 2) &&& (sl ^^^ (-1)))).2.2.2.2.2))) w t) := by
  refine zk_Cr.of (K := zm_207) rfl rfl rfl ?_
  show zk_T zk_mt zk_ex Ls xs zm_207 (0, [(0, .ref 44), (1, .ref 20), (2, .ref 32), (3, .int (nI a)), (4, .int (nI e)), (5, .int th), (6, .int sl)], []) (zH v w t) _
  refine zk_T.adv 4 (f' := (6, [(0, .ref 44), (1, .ref 20), (2, .ref 32), (3, .int (nI a)), (4, .int (nI e)), (5, .int th), (6, .int sl)], [.int 1, .int th, .int (nI e), .ref 20])) (h' := zH v w t) rfl ?_
  refine zk_T.cl (v := some (.int (zr_heldOff (v 23 e) th 1))) (h' := zH v w t) rfl (zs_heldOff (v := v) e (by omega) hke th 1) ?_
  show zk_T zk_mt zk_ex Ls xs zm_207 (9, [(0, .ref 44), (1, .ref 20), (2, .ref 32), (3, .int (nI a)), (4, .int (nI e)), (5, .int th), (6, .int sl)], [.int (zr_heldOff (v 23 e) th 1)]) (zH v w t) _
  refine zk_T.adv 9 (f' := (22, [(0, .ref 44), (1, .ref 20), (2, .ref 32), (3, .int (nI a)), (4, .int (nI e)), (5, .int th), (6, .int sl), (7, .int ((zr_heldOff (v 23 e) th 1) &&& (sl ^^^ (-1))))], [.int 2, .int th, .int (nI e), .ref 20])) (h' := zH v w t) rfl ?_
  refine zk_T.cl (v := some (.int (zr_heldOff (v 23 e) th 2))) (h' := zH v w t) rfl (zs_heldOff (v := v) e (by omega) hke th 2) ?_
  show zk_T zk_mt zk_ex Ls xs zm_207 (25, [(0, .ref 44), (1, .ref 20), (2, .ref 32), (3, .int (nI a)), (4, .int (nI e)), (5, .int th), (6, .int sl), (7, .int ((zr_heldOff (v 23 e) th 1) &&& (sl ^^^ (-1))))], [.int (zr_heldOff (v 23 e) th 2)]) (zH v w t) _
  refine zk_T.adv 9 (f' := (38, [(0, .ref 44), (1, .ref 20), (2, .ref 32), (3, .int (nI a)), (4, .int (nI e)), (5, .int th), (6, .int sl), (7, .int ((zr_heldOff (v 23 e) th 1) &&& (sl ^^^ (-1)))), (8, .int ((zr_heldOff (v 23 e) th 2) &&& (sl ^^^ (-1))))], [.int (nI a), .ref 27, .ref 44])) (h' := zH v w t) rfl ?_
  refine zk_T.ob (f' := (39, [(0, .ref 44), (1, .ref 20), (2, .ref 32), (3, .int (nI a)), (4, .int (nI e)), (5, .int th), (6, .int sl), (7, .int ((zr_heldOff (v 23 e) th 1) &&& (sl ^^^ (-1)))), (8, .int ((zr_heldOff (v 23 e) th 2) &&& (sl ^^^ (-1))))], [.int (v 27 (nI a).toNatClampNeg), .ref 44])) (h' := zH v w t) rfl (by first | exact zk_inN (by omega) (by decide) | decide) ?_
  rw [nI_clamp (show a < 2 ^ 31 by omega)]
  refine zk_T.adv 3 (f' := (45, [(0, .ref 44), (1, .ref 20), (2, .ref 32), (3, .int (nI a)), (4, .int (nI e)), (5, .int th), (6, .int sl), (7, .int ((zr_heldOff (v 23 e) th 1) &&& (sl ^^^ (-1)))), (8, .int ((zr_heldOff (v 23 e) th 2) &&& (sl ^^^ (-1))))], [.int (nI e), .ref 35, .int (v 27 a), .ref 44])) (h' := zH v w t) rfl ?_
  refine zk_T.ob (f' := (46, [(0, .ref 44), (1, .ref 20), (2, .ref 32), (3, .int (nI a)), (4, .int (nI e)), (5, .int th), (6, .int sl), (7, .int ((zr_heldOff (v 23 e) th 1) &&& (sl ^^^ (-1)))), (8, .int ((zr_heldOff (v 23 e) th 2) &&& (sl ^^^ (-1))))], [.int (v 35 (nI e).toNatClampNeg), .int (v 27 a), .ref 44])) (h' := zH v w t) rfl (by first | exact zk_inN (by omega) (by decide) | decide) ?_
  rw [nI_clamp (show e < 2 ^ 31 by omega)]
  refine zk_T.adv 2 (f' := (50, [(0, .ref 44), (1, .ref 20), (2, .ref 32), (3, .int (nI a)), (4, .int (nI e)), (5, .int th), (6, .int sl), (7, .int ((zr_heldOff (v 23 e) th 1) &&& (sl ^^^ (-1)))), (8, .int ((zr_heldOff (v 23 e) th 2) &&& (sl ^^^ (-1))))], [.int ((zr_heldOff (v 23 e) th 2) &&& (sl ^^^ (-1))), .int ((zr_heldOff (v 23 e) th 1) &&& (sl ^^^ (-1))), .int (v 35 e), .int (v 27 a), .ref 44])) (h' := zH v w t) rfl ?_
  refine zk_T.cl (v := some (.int ((zr_follow (v 45) (v 44 0) sp (v 27 a) (v 35 e) ((zr_heldOff (v 23 e) th 1) &&& (sl ^^^ (-1))) ((zr_heldOff (v 23 e) th 2) &&& (sl ^^^ (-1)))).1))) (h' := zH (zb v 44 (upd (upd (upd (upd (upd (v 44) 3 ((zr_follow (v 45) (v 44 0) sp (v 27 a) (v 35 e) ((zr_heldOff (v 23 e) th 1) &&& (sl ^^^ (-1))) ((zr_heldOff (v 23 e) th 2) &&& (sl ^^^ (-1)))).2.1)) 4 ((zr_follow (v 45) (v 44 0) sp (v 27 a) (v 35 e) ((zr_heldOff (v 23 e) th 1) &&& (sl ^^^ (-1))) ((zr_heldOff (v 23 e) th 2) &&& (sl ^^^ (-1)))).2.2.1)) 5 ((zr_follow (v 45) (v 44 0) sp (v 27 a) (v 35 e) ((zr_heldOff (v 23 e) th 1) &&& (sl ^^^ (-1))) ((zr_heldOff (v 23 e) th 2) &&& (sl ^^^ (-1)))).2.2.2.1)) 6 ((zr_follow (v 45) (v 44 0) sp (v 27 a) (v 35 e) ((zr_heldOff (v 23 e) th 1) &&& (sl ^^^ (-1))) ((zr_heldOff (v 23 e) th 2) &&& (sl ^^^ (-1)))).2.2.2.2.1)) 7 ((zr_follow (v 45) (v 44 0) sp (v 27 a) (v 35 e) ((zr_heldOff (v 23 e) th 1) &&& (sl ^^^ (-1))) ((zr_heldOff (v 23 e) th 2) &&& (sl ^^^ (-1)))).2.2.2.2.2))) w t) rfl (zs_followO (v := v) sp hs hsp (v 27 a) (v 35 e) ((zr_heldOff (v 23 e) th 1) &&& (sl ^^^ (-1))) ((zr_heldOff (v 23 e) th 2) &&& (sl ^^^ (-1)))) ?_
  show zk_T zk_mt zk_ex Ls xs zm_207 (53, [(0, .ref 44), (1, .ref 20), (2, .ref 32), (3, .int (nI a)), (4, .int (nI e)), (5, .int th), (6, .int sl), (7, .int ((zr_heldOff (v 23 e) th 1) &&& (sl ^^^ (-1)))), (8, .int ((zr_heldOff (v 23 e) th 2) &&& (sl ^^^ (-1))))], [.int ((zr_follow (v 45) (v 44 0) sp (v 27 a) (v 35 e) ((zr_heldOff (v 23 e) th 1) &&& (sl ^^^ (-1))) ((zr_heldOff (v 23 e) th 2) &&& (sl ^^^ (-1)))).1)]) (zH (zb v 44 (upd (upd (upd (upd (upd (v 44) 3 ((zr_follow (v 45) (v 44 0) sp (v 27 a) (v 35 e) ((zr_heldOff (v 23 e) th 1) &&& (sl ^^^ (-1))) ((zr_heldOff (v 23 e) th 2) &&& (sl ^^^ (-1)))).2.1)) 4 ((zr_follow (v 45) (v 44 0) sp (v 27 a) (v 35 e) ((zr_heldOff (v 23 e) th 1) &&& (sl ^^^ (-1))) ((zr_heldOff (v 23 e) th 2) &&& (sl ^^^ (-1)))).2.2.1)) 5 ((zr_follow (v 45) (v 44 0) sp (v 27 a) (v 35 e) ((zr_heldOff (v 23 e) th 1) &&& (sl ^^^ (-1))) ((zr_heldOff (v 23 e) th 2) &&& (sl ^^^ (-1)))).2.2.2.1)) 6 ((zr_follow (v 45) (v 44 0) sp (v 27 a) (v 35 e) ((zr_heldOff (v 23 e) th 1) &&& (sl ^^^ (-1))) ((zr_heldOff (v 23 e) th 2) &&& (sl ^^^ (-1)))).2.2.2.2.1)) 7 ((zr_follow (v 45) (v 44 0) sp (v 27 a) (v 35 e) ((zr_heldOff (v 23 e) th 1) &&& (sl ^^^ (-1))) ((zr_heldOff (v 23 e) th 2) &&& (sl ^^^ (-1)))).2.2.2.2.2))) w t) _
  exact zk_T.rt rfl (decide_eq_true (zr_follow01 _ _ _ _ _ _ _)) (by rfl)
/-- BasketKeep$Walk.followIn -/
theorem zs_followInO_tried (sp : Nat) (hs : v 44 1 = nI sp) (hsp : sp ≤ 60) (a e : Nat) (ha : a < 4) (he : e < 5) (hke : v 23 e = 0 ∨ v 23 e = 1 ∨ v 23 e = 2) (th sl : Int32) : zk_Cr zk_mt zk_ex Ls xs 207 [.ref 44, .ref 20, .ref 36, .int (nI a), .int (nI e), .int th, .int sl] (zH v w t) (some (.int ((zr_follow (v 45) (v 44 0) sp (v 27 a) (v 39 e) ((zr_heldOff (v 23 e) th 1) &&& (sl ^^^ (-1))) ((zr_heldOff (v 23 e) th 2) &&& (sl ^^^ (-1)))).1)), zH (zb v 44 (upd (upd (upd (upd (upd (v 44) 3 ((zr_follow (v 45) (v 44 0) sp (v 27 a) (v 39 e) ((zr_heldOff (v 23 e) th 1) &&& (sl ^^^ (-1))) ((zr_heldOff (v 23 e) th 2) &&& (sl ^^^ (-1)))).2.1)) 4 ((zr_follow (v 45) (v 44 0) sp (v 27 a) (v 39 e) ((zr_heldOff (v 23 e) th 1) &&& (sl ^^^ (-1))) ((zr_heldOff (v 23 e) th 2) &&& (sl ^^^ (-1)))).2.2.1)) 5 ((zr_follow (v 45) (v 44 0) sp (v 27 a) (v 39 e) ((zr_heldOff (v 23 e) th 1) &&& (sl ^^^ (-1))) ((zr_heldOff (v 23 e) th 2) &&& (sl ^^^ (-1)))).2.2.2.1)) 6 ((zr_follow (v 45) (v 44 0) sp (v 27 a) (v 39 e) ((zr_heldOff (v 23 e) th 1) &&& (sl ^^^ (-1))) ((zr_heldOff (v 23 e) th 2) &&& (sl ^^^ (-1)))).2.2.2.2.1)) 7 ((zr_follow (v 45) (v 44 0) sp (v 27 a) (v 39 e) ((zr_heldOff (v 23 e) th 1) &&& (sl ^^^ (-1))) ((zr_heldOff (v 23 e) th 2) &&& (sl ^^^ (-1)))).2.2.2.2.2))) w t) := by
  refine zk_Cr.of (K := zm_207) rfl rfl rfl ?_
  show zk_T zk_mt zk_ex Ls xs zm_207 (0, [(0, .ref 44), (1, .ref 20), (2, .ref 36), (3, .int (nI a)), (4, .int (nI e)), (5, .int th), (6, .int sl)], []) (zH v w t) _
  refine zk_T.adv 4 (f' := (6, [(0, .ref 44), (1, .ref 20), (2, .ref 36), (3, .int (nI a)), (4, .int (nI e)), (5, .int th), (6, .int sl)], [.int 1, .int th, .int (nI e), .ref 20])) (h' := zH v w t) rfl ?_
  refine zk_T.cl (v := some (.int (zr_heldOff (v 23 e) th 1))) (h' := zH v w t) rfl (zs_heldOff (v := v) e (by omega) hke th 1) ?_
  show zk_T zk_mt zk_ex Ls xs zm_207 (9, [(0, .ref 44), (1, .ref 20), (2, .ref 36), (3, .int (nI a)), (4, .int (nI e)), (5, .int th), (6, .int sl)], [.int (zr_heldOff (v 23 e) th 1)]) (zH v w t) _
  refine zk_T.adv 9 (f' := (22, [(0, .ref 44), (1, .ref 20), (2, .ref 36), (3, .int (nI a)), (4, .int (nI e)), (5, .int th), (6, .int sl), (7, .int ((zr_heldOff (v 23 e) th 1) &&& (sl ^^^ (-1))))], [.int 2, .int th, .int (nI e), .ref 20])) (h' := zH v w t) rfl ?_
  refine zk_T.cl (v := some (.int (zr_heldOff (v 23 e) th 2))) (h' := zH v w t) rfl (zs_heldOff (v := v) e (by omega) hke th 2) ?_
  show zk_T zk_mt zk_ex Ls xs zm_207 (25, [(0, .ref 44), (1, .ref 20), (2, .ref 36), (3, .int (nI a)), (4, .int (nI e)), (5, .int th), (6, .int sl), (7, .int ((zr_heldOff (v 23 e) th 1) &&& (sl ^^^ (-1))))], [.int (zr_heldOff (v 23 e) th 2)]) (zH v w t) _
  refine zk_T.adv 9 (f' := (38, [(0, .ref 44), (1, .ref 20), (2, .ref 36), (3, .int (nI a)), (4, .int (nI e)), (5, .int th), (6, .int sl), (7, .int ((zr_heldOff (v 23 e) th 1) &&& (sl ^^^ (-1)))), (8, .int ((zr_heldOff (v 23 e) th 2) &&& (sl ^^^ (-1))))], [.int (nI a), .ref 27, .ref 44])) (h' := zH v w t) rfl ?_
  refine zk_T.ob (f' := (39, [(0, .ref 44), (1, .ref 20), (2, .ref 36), (3, .int (nI a)), (4, .int (nI e)), (5, .int th), (6, .int sl), (7, .int ((zr_heldOff (v 23 e) th 1) &&& (sl ^^^ (-1)))), (8, .int ((zr_heldOff (v 23 e) th 2) &&& (sl ^^^ (-1))))], [.int (v 27 (nI a).toNatClampNeg), .ref 44])) (h' := zH v w t) rfl (by first | exact zk_inN (by omega) (by decide) | decide) ?_
  rw [nI_clamp (show a < 2 ^ 31 by omega)]
  refine zk_T.adv 3 (f' := (45, [(0, .ref 44), (1, .ref 20), (2, .ref 36), (3, .int (nI a)), (4, .int (nI e)), (5, .int th), (6, .int sl), (7, .int ((zr_heldOff (v 23 e) th 1) &&& (sl ^^^ (-1)))), (8, .int ((zr_heldOff (v 23 e) th 2) &&& (sl ^^^ (-1))))], [.int (nI e), .ref 39, .int (v 27 a), .ref 44])) (h' := zH v w t) rfl ?_
  refine zk_T.ob (f' := (46, [(0, .ref 44), (1, .ref 20), (2, .ref 36), (3, .int (nI a)), (4, .int (nI e)), (5, .int th), (6, .int sl), (7, .int ((zr_heldOff (v 23 e) th 1) &&& (sl ^^^ (-1)))), (8, .int ((zr_heldOff (v 23 e) th 2) &&& (sl ^^^ (-1))))], [.int (v 39 (nI e).toNatClampNeg), .int (v 27 a), .ref 44])) (h' := zH v w t) rfl (by first | exact zk_inN (by omega) (by decide) | decide) ?_
  rw [nI_clamp (show e < 2 ^ 31 by omega)]
  refine zk_T.adv 2 (f' := (50, [(0, .ref 44), (1, .ref 20), (2, .ref 36), (3, .int (nI a)), (4, .int (nI e)), (5, .int th), (6, .int sl), (7, .int ((zr_heldOff (v 23 e) th 1) &&& (sl ^^^ (-1)))), (8, .int ((zr_heldOff (v 23 e) th 2) &&& (sl ^^^ (-1))))], [.int ((zr_heldOff (v 23 e) th 2) &&& (sl ^^^ (-1))), .int ((zr_heldOff (v 23 e) th 1) &&& (sl ^^^ (-1))), .int (v 39 e), .int (v 27 a), .ref 44])) (h' := zH v w t) rfl ?_
  refine zk_T.cl (v := some (.int ((zr_follow (v 45) (v 44 0) sp (v 27 a) (v 39 e) ((zr_heldOff (v 23 e) th 1) &&& (sl ^^^ (-1))) ((zr_heldOff (v 23 e) th 2) &&& (sl ^^^ (-1)))).1))) (h' := zH (zb v 44 (upd (upd (upd (upd (upd (v 44) 3 ((zr_follow (v 45) (v 44 0) sp (v 27 a) (v 39 e) ((zr_heldOff (v 23 e) th 1) &&& (sl ^^^ (-1))) ((zr_heldOff (v 23 e) th 2) &&& (sl ^^^ (-1)))).2.1)) 4 ((zr_follow (v 45) (v 44 0) sp (v 27 a) (v 39 e) ((zr_heldOff (v 23 e) th 1) &&& (sl ^^^ (-1))) ((zr_heldOff (v 23 e) th 2) &&& (sl ^^^ (-1)))).2.2.1)) 5 ((zr_follow (v 45) (v 44 0) sp (v 27 a) (v 39 e) ((zr_heldOff (v 23 e) th 1) &&& (sl ^^^ (-1))) ((zr_heldOff (v 23 e) th 2) &&& (sl ^^^ (-1)))).2.2.2.1)) 6 ((zr_follow (v 45) (v 44 0) sp (v 27 a) (v 39 e) ((zr_heldOff (v 23 e) th 1) &&& (sl ^^^ (-1))) ((zr_heldOff (v 23 e) th 2) &&& (sl ^^^ (-1)))).2.2.2.2.1)) 7 ((zr_follow (v 45) (v 44 0) sp (v 27 a) (v 39 e) ((zr_heldOff (v 23 e) th 1) &&& (sl ^^^ (-1))) ((zr_heldOff (v 23 e) th 2) &&& (sl ^^^ (-1)))).2.2.2.2.2))) w t) rfl (zs_followO (v := v) sp hs hsp (v 27 a) (v 39 e) ((zr_heldOff (v 23 e) th 1) &&& (sl ^^^ (-1))) ((zr_heldOff (v 23 e) th 2) &&& (sl ^^^ (-1)))) ?_
  show zk_T zk_mt zk_ex Ls xs zm_207 (53, [(0, .ref 44), (1, .ref 20), (2, .ref 36), (3, .int (nI a)), (4, .int (nI e)), (5, .int th), (6, .int sl), (7, .int ((zr_heldOff (v 23 e) th 1) &&& (sl ^^^ (-1)))), (8, .int ((zr_heldOff (v 23 e) th 2) &&& (sl ^^^ (-1))))], [.int ((zr_follow (v 45) (v 44 0) sp (v 27 a) (v 39 e) ((zr_heldOff (v 23 e) th 1) &&& (sl ^^^ (-1))) ((zr_heldOff (v 23 e) th 2) &&& (sl ^^^ (-1)))).1)]) (zH (zb v 44 (upd (upd (upd (upd (upd (v 44) 3 ((zr_follow (v 45) (v 44 0) sp (v 27 a) (v 39 e) ((zr_heldOff (v 23 e) th 1) &&& (sl ^^^ (-1))) ((zr_heldOff (v 23 e) th 2) &&& (sl ^^^ (-1)))).2.1)) 4 ((zr_follow (v 45) (v 44 0) sp (v 27 a) (v 39 e) ((zr_heldOff (v 23 e) th 1) &&& (sl ^^^ (-1))) ((zr_heldOff (v 23 e) th 2) &&& (sl ^^^ (-1)))).2.2.1)) 5 ((zr_follow (v 45) (v 44 0) sp (v 27 a) (v 39 e) ((zr_heldOff (v 23 e) th 1) &&& (sl ^^^ (-1))) ((zr_heldOff (v 23 e) th 2) &&& (sl ^^^ (-1)))).2.2.2.1)) 6 ((zr_follow (v 45) (v 44 0) sp (v 27 a) (v 39 e) ((zr_heldOff (v 23 e) th 1) &&& (sl ^^^ (-1))) ((zr_heldOff (v 23 e) th 2) &&& (sl ^^^ (-1)))).2.2.2.2.1)) 7 ((zr_follow (v 45) (v 44 0) sp (v 27 a) (v 39 e) ((zr_heldOff (v 23 e) th 1) &&& (sl ^^^ (-1))) ((zr_heldOff (v 23 e) th 2) &&& (sl ^^^ (-1)))).2.2.2.2.2))) w t) _
  exact zk_T.rt rfl (decide_eq_true (zr_follow01 _ _ _ _ _ _ _)) (by rfl)
theorem zl_aimP (D : Nat) (hD : v 20 1 = nI D) (h8 : D ≤ 8) (yg : Int32) (sp : Nat) (hsp : sp ≤ 60) : ∀ (s : (Nat → Int32)) (q : Option Value × zk_H), zk_T zk_mt zk_ex Ls xs zm_98 ((fun (s : (Nat → Int32)) => ((54, [(0, .ref 53), (1, .ref 20), (4, .int (nI (1 + sp)))], []) : zk_F)) (zf (zl_aimG D (v 21) (v 22) yg) sp 1 s)) ((fun (s : (Nat → Int32)) => zH (zb (zb v 53 (upd (upd (v 53) 0 yg) 1 (nI sp))) 54 s) w t) (zf (zl_aimG D (v 21) (v 22) yg) sp 1 s)) q → zk_T zk_mt zk_ex Ls xs zm_98 (21, [(0, .ref 53), (1, .ref 20), (4, .int (nI 1))], []) (zH (zb (zb v 53 (upd (upd (v 53) 0 yg) 1 (nI sp))) 54 s) w t) q := by
  intro s q hk
  refine zk_forK (M := zm_98) (fun j (s : (Nat → Int32)) => (21, [(0, .ref 53), (1, .ref 20), (4, .int (nI j))], [])) (fun _ (s : (Nat → Int32)) => zH (zb (zb v 53 (upd (upd (v 53) 0 yg) 1 (nI sp))) 54 s) w t) (zl_aimG D (v 21) (v 22) yg) (fun _ _ => True) (fun (s : (Nat → Int32)) => (54, [(0, .ref 53), (1, .ref 20), (4, .int (nI (1 + sp)))], [])) (fun (s : (Nat → Int32)) => zH (zb (zb v 53 (upd (upd (v 53) 0 yg) 1 (nI sp))) 54 s) w t) (sp) 1 s (fun _ _ _ _ _ => trivial) (fun j s hj1 hj2 hp q hk => ?_) (fun s hp q hk => ?_) ?_ q hk
  · have hz := True.intro
    obtain ⟨sk, rfl⟩ : ∃ z, z = s := ⟨_, rfl⟩
    show zk_T zk_mt zk_ex Ls xs zm_98 (21, [(0, .ref 53), (1, .ref 20), (4, .int (nI j))], []) (zH (zb (zb v 53 (upd (upd (v 53) 0 yg) 1 (nI sp))) 54 sk) w t) q
    refine zk_T.adv 3 (f' := (27, [(0, .ref 53), (1, .ref 20), (4, .int (nI j))], [.int (nI sp), .int (nI j)])) (h' := zH (zb (zb v 53 (upd (upd (v 53) 0 yg) 1 (nI sp))) 54 sk) w t) rfl ?_
    refine zk_T.br (f1 := (54, [(0, .ref 53), (1, .ref 20), (4, .int (nI j))], [])) (f2 := (30, [(0, .ref 53), (1, .ref 20), (4, .int (nI j))], [])) rfl (fun c1 => absurd (of_decide_eq_true c1) (nI_nlt (show j ≤ sp by omega) (by omega))) (fun c1 => ?_)
    refine zk_T.adv 8 (f' := (44, [(0, .ref 53), (1, .ref 20), (4, .int (nI j))], [.int (yg + (nI j)), .ref 20, .int (nI j), .ref 54])) (h' := zH (zb (zb v 53 (upd (upd (v 53) 0 yg) 1 (nI sp))) 54 sk) w t) rfl ?_
    refine zk_T.cl (v := some (.int (zr_strikingIn D (v 21) (v 22) (yg + (nI j))))) (h' := zH (zb (zb v 53 (upd (upd (v 53) 0 yg) 1 (nI sp))) 54 sk) w t) rfl (zs_strikingIn (v := (zb (zb v 53 (upd (upd (v 53) 0 yg) 1 (nI sp))) 54 sk)) D hD h8 (yg + (nI j))) ?_
    show zk_T zk_mt zk_ex Ls xs zm_98 (47, [(0, .ref 53), (1, .ref 20), (4, .int (nI j))], [.int (zr_strikingIn D (v 21) (v 22) (yg + (nI j))), .int (nI j), .ref 54]) (zH (zb (zb v 53 (upd (upd (v 53) 0 yg) 1 (nI sp))) 54 sk) w t) _
    refine zk_T.ob (f' := (48, [(0, .ref 53), (1, .ref 20), (4, .int (nI j))], [])) (h' := zH (zb (zb v 53 (upd (upd (v 53) 0 yg) 1 (nI sp))) 54 (upd sk (nI j).toNatClampNeg (zr_strikingIn D (v 21) (v 22) (yg + (nI j))))) w t) rfl (by first | exact zk_inN (by omega) (by decide) | decide) ?_
    rw [nI_clamp (show j < 2 ^ 31 by omega)]
    refine zk_T.adv 2 (f' := (21, [(0, .ref 53), (1, .ref 20), (4, .int ((nI j) + 1))], [])) (h' := zH (zb (zb v 53 (upd (upd (v 53) 0 yg) 1 (nI sp))) 54 (upd sk j (zr_strikingIn D (v 21) (v 22) (yg + (nI j))))) w t) rfl ?_
    rw [nI_1]
    simp only [zl_aimG] at hk
    exact hk
  · have hz := True.intro
    obtain ⟨sk, rfl⟩ : ∃ z, z = s := ⟨_, rfl⟩
    show zk_T zk_mt zk_ex Ls xs zm_98 (21, [(0, .ref 53), (1, .ref 20), (4, .int (nI (1 + sp)))], []) (zH (zb (zb v 53 (upd (upd (v 53) 0 yg) 1 (nI sp))) 54 sk) w t) q
    refine zk_T.adv 3 (f' := (27, [(0, .ref 53), (1, .ref 20), (4, .int (nI (1 + sp)))], [.int (nI sp), .int (nI (1 + sp))])) (h' := zH (zb (zb v 53 (upd (upd (v 53) 0 yg) 1 (nI sp))) 54 sk) w t) rfl ?_
    refine zk_T.br (f1 := (54, [(0, .ref 53), (1, .ref 20), (4, .int (nI (1 + sp)))], [])) (f2 := (30, [(0, .ref 53), (1, .ref 20), (4, .int (nI (1 + sp)))], [])) rfl (fun c1 => ?_) (fun c1 => absurd (nI_lt (show sp < 1 + sp by omega) (by omega)) (of_decide_eq_false c1))
    exact hk
  · exact trivial
/-- BasketKeep$Walk.aim -/
theorem zs_aimP_now (D : Nat) (hD : v 20 1 = nI D) (h8 : D ≤ 8) (sp : Nat) (hsp : sp ≤ 60) : zk_Cr zk_mt zk_ex Ls xs 98 [.ref 53, .ref 20, .ref 32, .int (nI sp)] (zH v w t) (none, zH (zb (zb v 53 (upd (upd (v 53) 0 (v 32 0)) 1 (nI sp))) 54 (zf (zl_aimG D (v 21) (v 22) (v 32 0)) sp 1 (v 54))) w t) := by
  refine zk_Cr.of (K := zm_98) rfl rfl rfl ?_
  show zk_T zk_mt zk_ex Ls xs zm_98 (0, [(0, .ref 53), (1, .ref 20), (2, .ref 32), (3, .int (nI sp))], []) (zH v w t) _
  refine zk_T.adv 7 (f' := (12, [(0, .ref 53), (1, .ref 20), (2, .ref 32), (3, .int (nI sp))], [.int 60, .int (nI sp), .ref 53])) (h' := zH (zb v 53 (upd (v 53) 0 (v 32 0))) w t) rfl ?_
  refine zk_T.cl (v := some (.int (nI sp))) (h' := zH (zb v 53 (upd (v 53) 0 (v 32 0))) w t) rfl (zs_min60 sp hsp) ?_
  show zk_T zk_mt zk_ex Ls xs zm_98 (15, [(0, .ref 53), (1, .ref 20), (2, .ref 32), (3, .int (nI sp))], [.int (nI sp), .ref 53]) (zH (zb v 53 (upd (v 53) 0 (v 32 0))) w t) _
  refine zk_T.adv 3 (f' := (21, [(0, .ref 53), (1, .ref 20), (4, .int 1)], [])) (h' := zH (zb v 53 (upd (upd (v 53) 0 (v 32 0)) 1 (nI sp))) w t) rfl ?_
  refine zl_aimP D hD h8 (v 32 0) sp hsp (v 54) _ ?_
  show zk_T zk_mt zk_ex Ls xs zm_98 (54, [(0, .ref 53), (1, .ref 20), (4, .int (nI (1 + sp)))], []) (zH (zb (zb v 53 (upd (upd (v 53) 0 (v 32 0)) 1 (nI sp))) 54 (zf (zl_aimG D (v 21) (v 22) (v 32 0)) sp 1 (v 54))) w t) _
  exact zk_T.rt rfl rfl (by rfl)
theorem zl_followP (sp : Nat) (hs : v 53 1 = nI sp) (hsp : sp ≤ 60) (fe od ev : Int32) : ∀ (s : Int32 × Int32 × Int32 × Int32 × Int32) (q : Option Value × zk_H), zk_or (fun (s : Int32 × Int32 × Int32 × Int32 × Int32) => zk_T zk_mt zk_ex Ls xs zm_159 (101, [(0, .ref 53), (1, .int fe), (3, .int od), (4, .int ev), (5, .int (nI (1 + sp)))], []) (zH (zb v 53 (upd (upd (upd (upd (upd (v 53) 3 s.1) 4 s.2.1) 5 s.2.2.1) 6 s.2.2.2.1) 7 s.2.2.2.2)) w t) q) (fun (r : Int32 × Int32 × Int32 × Int32 × Int32 × Int32) => (some (.int r.1), zH (zb v 53 (upd (upd (upd (upd (upd (v 53) 3 r.2.1) 4 r.2.2.1) 5 r.2.2.2.1) 6 r.2.2.2.2.1) 7 r.2.2.2.2.2)) w t) = q) (zfr (zl_followG (v 54) (v 53 0) fe od ev) sp 1 s) → zk_T zk_mt zk_ex Ls xs zm_159 (42, [(0, .ref 53), (1, .int fe), (3, .int od), (4, .int ev), (5, .int (nI 1))], []) (zH (zb v 53 (upd (upd (upd (upd (upd (v 53) 3 s.1) 4 s.2.1) 5 s.2.2.1) 6 s.2.2.2.1) 7 s.2.2.2.2)) w t) q := by
  intro s q hk
  refine zk_forX (M := zm_159) (fun j (s : Int32 × Int32 × Int32 × Int32 × Int32) => (42, [(0, .ref 53), (1, .int fe), (3, .int od), (4, .int ev), (5, .int (nI j))], [])) (fun _ (s : Int32 × Int32 × Int32 × Int32 × Int32) => zH (zb v 53 (upd (upd (upd (upd (upd (v 53) 3 s.1) 4 s.2.1) 5 s.2.2.1) 6 s.2.2.2.1) 7 s.2.2.2.2)) w t) (zl_followG (v 54) (v 53 0) fe od ev) (fun _ _ => True) (fun (s : Int32 × Int32 × Int32 × Int32 × Int32) => (101, [(0, .ref 53), (1, .int fe), (3, .int od), (4, .int ev), (5, .int (nI (1 + sp)))], [])) (fun (s : Int32 × Int32 × Int32 × Int32 × Int32) => zH (zb v 53 (upd (upd (upd (upd (upd (v 53) 3 s.1) 4 s.2.1) 5 s.2.2.1) 6 s.2.2.2.1) 7 s.2.2.2.2)) w t) (fun r q => (some (.int r.1), zH (zb v 53 (upd (upd (upd (upd (upd (v 53) 3 r.2.1) 4 r.2.2.1) 5 r.2.2.2.1) 6 r.2.2.2.2.1) 7 r.2.2.2.2.2)) w t) = q) (sp) 1 s (fun _ _ _ _ _ _ _ => trivial) (fun j s hj1 hj2 hp q hk => ?_) (fun s hp q hk => ?_) ?_ q hk
  · obtain ⟨la, lt, wo, ls, kp⟩ := s
    show zk_T zk_mt zk_ex Ls xs zm_159 (42, [(0, .ref 53), (1, .int fe), (3, .int od), (4, .int ev), (5, .int (nI j))], []) (zH (zb v 53 (upd (upd (upd (upd (upd (v 53) 3 la) 4 lt) 5 wo) 6 ls) 7 kp)) w t) q
    refine zk_T.adv 3 (f' := (48, [(0, .ref 53), (1, .int fe), (3, .int od), (4, .int ev), (5, .int (nI j))], [.int (v 53 1), .int (nI j)])) (h' := zH (zb v 53 (upd (upd (upd (upd (upd (v 53) 3 la) 4 lt) 5 wo) 6 ls) 7 kp)) w t) rfl ?_
    refine zk_T.br (f1 := (101, [(0, .ref 53), (1, .int fe), (3, .int od), (4, .int ev), (5, .int (nI j))], [])) (f2 := (51, [(0, .ref 53), (1, .int fe), (3, .int od), (4, .int ev), (5, .int (nI j))], [])) rfl (fun c1 => absurd (of_decide_eq_true c1) (by rw [hs]; exact nI_nlt (show j ≤ sp by omega) (by omega))) (fun c1 => ?_)
    refine zk_T.adv 5 (f' := (59, [(0, .ref 53), (1, .int fe), (3, .int od), (4, .int ev), (5, .int (nI j))], [.int 2, .int ((v 53 0) + (nI j))])) (h' := zH (zb v 53 (upd (upd (upd (upd (upd (v 53) 3 la) 4 lt) 5 wo) 6 ls) 7 kp)) w t) rfl ?_
    refine zk_T.ob (f' := (60, [(0, .ref 53), (1, .int fe), (3, .int od), (4, .int ev), (5, .int (nI j))], [.int (((v 53 0) + (nI j)) - ((v 53 0) + (nI j)) / 2 * 2)])) (h' := zH (zb v 53 (upd (upd (upd (upd (upd (v 53) 3 la) 4 lt) 5 wo) 6 ls) 7 kp)) w t) rfl (by decide) ?_
    refine zk_T.br (f1 := (63, [(0, .ref 53), (1, .int fe), (3, .int od), (4, .int ev), (5, .int (nI j))], [])) (f2 := (68, [(0, .ref 53), (1, .int fe), (3, .int od), (4, .int ev), (5, .int (nI j))], [])) rfl (fun c2 => ?_) (fun c2 => ?_)
    · have c2 : (((v 53 0) + (nI j)) - ((v 53 0) + (nI j)) / 2 * 2) = 0 := of_decide_eq_true c2
      refine zk_T.adv 6 (f' := (77, [(0, .ref 53), (1, .int fe), (3, .int od), (4, .int ev), (5, .int (nI j)), (6, .int ev)], [.int (nI j), .ref 54])) (h' := zH (zb v 53 (upd (upd (upd (upd (upd (v 53) 3 la) 4 lt) 5 wo) 6 ls) 7 kp)) w t) rfl ?_
      refine zk_T.ob (f' := (78, [(0, .ref 53), (1, .int fe), (3, .int od), (4, .int ev), (5, .int (nI j)), (6, .int ev)], [.int (v 54 (nI j).toNatClampNeg)])) (h' := zH (zb v 53 (upd (upd (upd (upd (upd (v 53) 3 la) 4 lt) 5 wo) 6 ls) 7 kp)) w t) rfl (by first | exact zk_inN (by omega) (by decide) | decide) ?_
      rw [nI_clamp (show j < 2 ^ 31 by omega)]
      refine zk_T.br (f1 := (95, [(0, .ref 53), (1, .int fe), (3, .int od), (4, .int ev), (5, .int (nI j)), (6, .int ev)], [])) (f2 := (81, [(0, .ref 53), (1, .int fe), (3, .int od), (4, .int ev), (5, .int (nI j)), (6, .int ev)], [])) rfl (fun c3 => ?_) (fun c3 => ?_)
      · have c3 : (v 54 j) = 0 := of_decide_eq_true c3
        refine zk_T.adv 2 (f' := (42, [(0, .ref 53), (1, .int fe), (3, .int od), (4, .int ev), (5, .int ((nI j) + 1))], [])) (h' := zH (zb v 53 (upd (upd (upd (upd (upd (v 53) 3 la) 4 lt) 5 wo) 6 ls) 7 kp)) w t) rfl ?_
        rw [nI_1]
        simp only [zl_followG, zk_or, if_pos c2, if_pos c3] at hk
        exact hk
      · have c3 : ¬ ((v 54 j) = 0) := of_decide_eq_false c3
        refine zk_T.adv 4 (f' := (87, [(0, .ref 53), (1, .int fe), (3, .int od), (4, .int ev), (5, .int (nI j)), (6, .int ev)], [.int ev, .int fe, .int (nI j), .ref 53])) (h' := zH (zb v 53 (upd (upd (upd (upd (upd (v 53) 3 la) 4 lt) 5 wo) 6 ls) 7 kp)) w t) rfl ?_
        refine zk_T.cl (v := some (.int ((zr_oy (v 54 j) la lt wo ls kp j fe ev).1))) (h' := zH (zb v 53 (upd (upd (upd (upd (upd (v 53) 3 ((zr_oy (v 54 j) la lt wo ls kp j fe ev).2.1)) 4 ((zr_oy (v 54 j) la lt wo ls kp j fe ev).2.2.1)) 5 ((zr_oy (v 54 j) la lt wo ls kp j fe ev).2.2.2.1)) 6 ((zr_oy (v 54 j) la lt wo ls kp j fe ev).2.2.2.2.1)) 7 ((zr_oy (v 54 j) la lt wo ls kp j fe ev).2.2.2.2.2))) w t) rfl (zs_oyP j (by omega) fe ev) ?_
        show zk_T zk_mt zk_ex Ls xs zm_159 (90, [(0, .ref 53), (1, .int fe), (3, .int od), (4, .int ev), (5, .int (nI j)), (6, .int ev)], [.int ((zr_oy (v 54 j) la lt wo ls kp j fe ev).1)]) (zH (zb v 53 (upd (upd (upd (upd (upd (v 53) 3 ((zr_oy (v 54 j) la lt wo ls kp j fe ev).2.1)) 4 ((zr_oy (v 54 j) la lt wo ls kp j fe ev).2.2.1)) 5 ((zr_oy (v 54 j) la lt wo ls kp j fe ev).2.2.2.1)) 6 ((zr_oy (v 54 j) la lt wo ls kp j fe ev).2.2.2.2.1)) 7 ((zr_oy (v 54 j) la lt wo ls kp j fe ev).2.2.2.2.2))) w t) _
        refine zk_T.br (f1 := (93, [(0, .ref 53), (1, .int fe), (3, .int od), (4, .int ev), (5, .int (nI j)), (6, .int ev)], [])) (f2 := (95, [(0, .ref 53), (1, .int fe), (3, .int od), (4, .int ev), (5, .int (nI j)), (6, .int ev)], [])) rfl (fun c4 => ?_) (fun c4 => ?_)
        · have c4 : ((zr_oy (v 54 j) la lt wo ls kp j fe ev).1) = 0 := of_decide_eq_true c4
          refine zk_T.adv 1 (f' := (94, [(0, .ref 53), (1, .int fe), (3, .int od), (4, .int ev), (5, .int (nI j)), (6, .int ev)], [.int 0])) (h' := zH (zb v 53 (upd (upd (upd (upd (upd (v 53) 3 ((zr_oy (v 54 j) la lt wo ls kp j fe ev).2.1)) 4 ((zr_oy (v 54 j) la lt wo ls kp j fe ev).2.2.1)) 5 ((zr_oy (v 54 j) la lt wo ls kp j fe ev).2.2.2.1)) 6 ((zr_oy (v 54 j) la lt wo ls kp j fe ev).2.2.2.2.1)) 7 ((zr_oy (v 54 j) la lt wo ls kp j fe ev).2.2.2.2.2))) w t) rfl ?_
          simp only [zl_followG, zk_or, if_pos c2, if_neg c3, if_pos c4] at hk
          exact zk_T.rt rfl rfl hk
        · have c4 : ¬ (((zr_oy (v 54 j) la lt wo ls kp j fe ev).1) = 0) := of_decide_eq_false c4
          refine zk_T.adv 2 (f' := (42, [(0, .ref 53), (1, .int fe), (3, .int od), (4, .int ev), (5, .int ((nI j) + 1))], [])) (h' := zH (zb v 53 (upd (upd (upd (upd (upd (v 53) 3 ((zr_oy (v 54 j) la lt wo ls kp j fe ev).2.1)) 4 ((zr_oy (v 54 j) la lt wo ls kp j fe ev).2.2.1)) 5 ((zr_oy (v 54 j) la lt wo ls kp j fe ev).2.2.2.1)) 6 ((zr_oy (v 54 j) la lt wo ls kp j fe ev).2.2.2.2.1)) 7 ((zr_oy (v 54 j) la lt wo ls kp j fe ev).2.2.2.2.2))) w t) rfl ?_
          rw [nI_1]
          simp only [zl_followG, zk_or, if_pos c2, if_neg c3, if_neg c4] at hk
          exact hk
    · have c2 : ¬ ((((v 53 0) + (nI j)) - ((v 53 0) + (nI j)) / 2 * 2) = 0) := of_decide_eq_false c2
      refine zk_T.adv 5 (f' := (77, [(0, .ref 53), (1, .int fe), (3, .int od), (4, .int ev), (5, .int (nI j)), (6, .int od)], [.int (nI j), .ref 54])) (h' := zH (zb v 53 (upd (upd (upd (upd (upd (v 53) 3 la) 4 lt) 5 wo) 6 ls) 7 kp)) w t) rfl ?_
      refine zk_T.ob (f' := (78, [(0, .ref 53), (1, .int fe), (3, .int od), (4, .int ev), (5, .int (nI j)), (6, .int od)], [.int (v 54 (nI j).toNatClampNeg)])) (h' := zH (zb v 53 (upd (upd (upd (upd (upd (v 53) 3 la) 4 lt) 5 wo) 6 ls) 7 kp)) w t) rfl (by first | exact zk_inN (by omega) (by decide) | decide) ?_
      rw [nI_clamp (show j < 2 ^ 31 by omega)]
      refine zk_T.br (f1 := (95, [(0, .ref 53), (1, .int fe), (3, .int od), (4, .int ev), (5, .int (nI j)), (6, .int od)], [])) (f2 := (81, [(0, .ref 53), (1, .int fe), (3, .int od), (4, .int ev), (5, .int (nI j)), (6, .int od)], [])) rfl (fun c5 => ?_) (fun c5 => ?_)
      · have c5 : (v 54 j) = 0 := of_decide_eq_true c5
        refine zk_T.adv 2 (f' := (42, [(0, .ref 53), (1, .int fe), (3, .int od), (4, .int ev), (5, .int ((nI j) + 1))], [])) (h' := zH (zb v 53 (upd (upd (upd (upd (upd (v 53) 3 la) 4 lt) 5 wo) 6 ls) 7 kp)) w t) rfl ?_
        rw [nI_1]
        simp only [zl_followG, zk_or, if_neg c2, if_pos c5] at hk
        exact hk
      · have c5 : ¬ ((v 54 j) = 0) := of_decide_eq_false c5
        refine zk_T.adv 4 (f' := (87, [(0, .ref 53), (1, .int fe), (3, .int od), (4, .int ev), (5, .int (nI j)), (6, .int od)], [.int od, .int fe, .int (nI j), .ref 53])) (h' := zH (zb v 53 (upd (upd (upd (upd (upd (v 53) 3 la) 4 lt) 5 wo) 6 ls) 7 kp)) w t) rfl ?_
        refine zk_T.cl (v := some (.int ((zr_oy (v 54 j) la lt wo ls kp j fe od).1))) (h' := zH (zb v 53 (upd (upd (upd (upd (upd (v 53) 3 ((zr_oy (v 54 j) la lt wo ls kp j fe od).2.1)) 4 ((zr_oy (v 54 j) la lt wo ls kp j fe od).2.2.1)) 5 ((zr_oy (v 54 j) la lt wo ls kp j fe od).2.2.2.1)) 6 ((zr_oy (v 54 j) la lt wo ls kp j fe od).2.2.2.2.1)) 7 ((zr_oy (v 54 j) la lt wo ls kp j fe od).2.2.2.2.2))) w t) rfl (zs_oyP j (by omega) fe od) ?_
        show zk_T zk_mt zk_ex Ls xs zm_159 (90, [(0, .ref 53), (1, .int fe), (3, .int od), (4, .int ev), (5, .int (nI j)), (6, .int od)], [.int ((zr_oy (v 54 j) la lt wo ls kp j fe od).1)]) (zH (zb v 53 (upd (upd (upd (upd (upd (v 53) 3 ((zr_oy (v 54 j) la lt wo ls kp j fe od).2.1)) 4 ((zr_oy (v 54 j) la lt wo ls kp j fe od).2.2.1)) 5 ((zr_oy (v 54 j) la lt wo ls kp j fe od).2.2.2.1)) 6 ((zr_oy (v 54 j) la lt wo ls kp j fe od).2.2.2.2.1)) 7 ((zr_oy (v 54 j) la lt wo ls kp j fe od).2.2.2.2.2))) w t) _
        refine zk_T.br (f1 := (93, [(0, .ref 53), (1, .int fe), (3, .int od), (4, .int ev), (5, .int (nI j)), (6, .int od)], [])) (f2 := (95, [(0, .ref 53), (1, .int fe), (3, .int od), (4, .int ev), (5, .int (nI j)), (6, .int od)], [])) rfl (fun c6 => ?_) (fun c6 => ?_)
        · have c6 : ((zr_oy (v 54 j) la lt wo ls kp j fe od).1) = 0 := of_decide_eq_true c6
          refine zk_T.adv 1 (f' := (94, [(0, .ref 53), (1, .int fe), (3, .int od), (4, .int ev), (5, .int (nI j)), (6, .int od)], [.int 0])) (h' := zH (zb v 53 (upd (upd (upd (upd (upd (v 53) 3 ((zr_oy (v 54 j) la lt wo ls kp j fe od).2.1)) 4 ((zr_oy (v 54 j) la lt wo ls kp j fe od).2.2.1)) 5 ((zr_oy (v 54 j) la lt wo ls kp j fe od).2.2.2.1)) 6 ((zr_oy (v 54 j) la lt wo ls kp j fe od).2.2.2.2.1)) 7 ((zr_oy (v 54 j) la lt wo ls kp j fe od).2.2.2.2.2))) w t) rfl ?_
          simp only [zl_followG, zk_or, if_neg c2, if_neg c5, if_pos c6] at hk
          exact zk_T.rt rfl rfl hk
        · have c6 : ¬ (((zr_oy (v 54 j) la lt wo ls kp j fe od).1) = 0) := of_decide_eq_false c6
          refine zk_T.adv 2 (f' := (42, [(0, .ref 53), (1, .int fe), (3, .int od), (4, .int ev), (5, .int ((nI j) + 1))], [])) (h' := zH (zb v 53 (upd (upd (upd (upd (upd (v 53) 3 ((zr_oy (v 54 j) la lt wo ls kp j fe od).2.1)) 4 ((zr_oy (v 54 j) la lt wo ls kp j fe od).2.2.1)) 5 ((zr_oy (v 54 j) la lt wo ls kp j fe od).2.2.2.1)) 6 ((zr_oy (v 54 j) la lt wo ls kp j fe od).2.2.2.2.1)) 7 ((zr_oy (v 54 j) la lt wo ls kp j fe od).2.2.2.2.2))) w t) rfl ?_
          rw [nI_1]
          simp only [zl_followG, zk_or, if_neg c2, if_neg c5, if_neg c6] at hk
          exact hk
  · obtain ⟨la, lt, wo, ls, kp⟩ := s
    show zk_T zk_mt zk_ex Ls xs zm_159 (42, [(0, .ref 53), (1, .int fe), (3, .int od), (4, .int ev), (5, .int (nI (1 + sp)))], []) (zH (zb v 53 (upd (upd (upd (upd (upd (v 53) 3 la) 4 lt) 5 wo) 6 ls) 7 kp)) w t) q
    refine zk_T.adv 3 (f' := (48, [(0, .ref 53), (1, .int fe), (3, .int od), (4, .int ev), (5, .int (nI (1 + sp)))], [.int (v 53 1), .int (nI (1 + sp))])) (h' := zH (zb v 53 (upd (upd (upd (upd (upd (v 53) 3 la) 4 lt) 5 wo) 6 ls) 7 kp)) w t) rfl ?_
    refine zk_T.br (f1 := (101, [(0, .ref 53), (1, .int fe), (3, .int od), (4, .int ev), (5, .int (nI (1 + sp)))], [])) (f2 := (51, [(0, .ref 53), (1, .int fe), (3, .int od), (4, .int ev), (5, .int (nI (1 + sp)))], [])) rfl (fun c1 => ?_) (fun c1 => absurd (by rw [hs]; exact nI_lt (show sp < 1 + sp by omega) (by omega)) (of_decide_eq_false c1))
    exact hk
  · exact trivial
/-- BasketKeep$Walk.follow -/
theorem zs_followP (sp : Nat) (hs : v 53 1 = nI sp) (hsp : sp ≤ 60) (fe l0 od ev : Int32) : zk_Cr zk_mt zk_ex Ls xs 159 [.ref 53, .int fe, .int l0, .int od, .int ev] (zH v w t) (some (.int (zr_follow (v 54) (v 53 0) sp fe l0 od ev).1), zH (zb v 53 (upd (upd (upd (upd (upd (v 53) 3 ((zr_follow (v 54) (v 53 0) sp fe l0 od ev).2.1)) 4 ((zr_follow (v 54) (v 53 0) sp fe l0 od ev).2.2.1)) 5 ((zr_follow (v 54) (v 53 0) sp fe l0 od ev).2.2.2.1)) 6 ((zr_follow (v 54) (v 53 0) sp fe l0 od ev).2.2.2.2.1)) 7 ((zr_follow (v 54) (v 53 0) sp fe l0 od ev).2.2.2.2.2))) w t) := by
  refine zk_Cr.of (K := zm_159) rfl rfl rfl ?_
  show zk_T zk_mt zk_ex Ls xs zm_159 (0, [(0, .ref 53), (1, .int fe), (2, .int l0), (3, .int od), (4, .int ev)], []) (zH v w t) _
  refine zk_T.adv 15 (f' := (27, [(0, .ref 53), (1, .int fe), (2, .int l0), (3, .int od), (4, .int ev)], [.int l0, .ref 53])) (h' := zH (zb v 53 (upd (upd (upd (upd (v 53) 3 (-2)) 4 (-2)) 6 l0) 7 0)) w t) rfl ?_
  refine zk_T.br (f1 := (35, [(0, .ref 53), (1, .int fe), (2, .int l0), (3, .int od), (4, .int ev)], [.ref 53])) (f2 := (30, [(0, .ref 53), (1, .int fe), (2, .int l0), (3, .int od), (4, .int ev)], [.ref 53])) rfl (fun c1 => ?_) (fun c1 => ?_)
  · have c1 : l0 ≤ 0 := of_decide_eq_true c1
    refine zk_T.adv 4 (f' := (42, [(0, .ref 53), (1, .int fe), (3, .int od), (4, .int ev), (5, .int 1)], [])) (h' := zH (zb v 53 (upd (upd (upd (upd (upd (v 53) 3 (-2)) 4 (-2)) 5 0) 6 l0) 7 0)) w t) rfl ?_
    refine zl_followP sp hs hsp fe od ev ((-2), (-2), 0, l0, 0) _ ?_
    cases z2 : zfr (zl_followG (v 54) (v 53 0) fe od ev) sp 1 ((-2), (-2), 0, l0, 0) with
    | inl s =>
      show zk_T zk_mt zk_ex Ls xs zm_159 (101, [(0, .ref 53), (1, .int fe), (3, .int od), (4, .int ev), (5, .int (nI (1 + sp)))], []) (zH (zb v 53 (upd (upd (upd (upd (upd (v 53) 3 s.1) 4 s.2.1) 5 s.2.2.1) 6 s.2.2.2.1) 7 s.2.2.2.2)) w t) _
      refine zk_T.adv 1 (f' := (102, [(0, .ref 53), (1, .int fe), (3, .int od), (4, .int ev), (5, .int (nI (1 + sp)))], [.int 1])) (h' := zH (zb v 53 (upd (upd (upd (upd (upd (v 53) 3 s.1) 4 s.2.1) 5 s.2.2.1) 6 s.2.2.2.1) 7 s.2.2.2.2)) w t) rfl ?_
      exact zk_T.rt rfl rfl (by simp only [zr_follow, if_pos c1, z2] <;> rfl)
    | inr r =>
      show ((some (Value.int r.1), zH (zb v 53 (upd (upd (upd (upd (upd (v 53) 3 r.2.1) 4 r.2.2.1) 5 r.2.2.2.1) 6 r.2.2.2.2.1) 7 r.2.2.2.2.2)) w t) : Option Value × zk_H) = _
      simp only [zr_follow, if_pos c1, z2] <;> rfl
  · have c1 : ¬ (l0 ≤ 0) := of_decide_eq_false c1
    refine zk_T.adv 5 (f' := (42, [(0, .ref 53), (1, .int fe), (3, .int od), (4, .int ev), (5, .int 1)], [])) (h' := zH (zb v 53 (upd (upd (upd (upd (upd (v 53) 3 (-2)) 4 (-2)) 5 (-2)) 6 l0) 7 0)) w t) rfl ?_
    refine zl_followP sp hs hsp fe od ev ((-2), (-2), (-2), l0, 0) _ ?_
    cases z3 : zfr (zl_followG (v 54) (v 53 0) fe od ev) sp 1 ((-2), (-2), (-2), l0, 0) with
    | inl s =>
      show zk_T zk_mt zk_ex Ls xs zm_159 (101, [(0, .ref 53), (1, .int fe), (3, .int od), (4, .int ev), (5, .int (nI (1 + sp)))], []) (zH (zb v 53 (upd (upd (upd (upd (upd (v 53) 3 s.1) 4 s.2.1) 5 s.2.2.1) 6 s.2.2.2.1) 7 s.2.2.2.2)) w t) _
      refine zk_T.adv 1 (f' := (102, [(0, .ref 53), (1, .int fe), (3, .int od), (4, .int ev), (5, .int (nI (1 + sp)))], [.int 1])) (h' := zH (zb v 53 (upd (upd (upd (upd (upd (v 53) 3 s.1) 4 s.2.1) 5 s.2.2.1) 6 s.2.2.2.1) 7 s.2.2.2.2)) w t) rfl ?_
      exact zk_T.rt rfl rfl (by simp only [zr_follow, if_neg c1, z3] <;> rfl)
    | inr r =>
      show ((some (Value.int r.1), zH (zb v 53 (upd (upd (upd (upd (upd (v 53) 3 r.2.1) 4 r.2.2.1) 5 r.2.2.2.1) 6 r.2.2.2.2.1) 7 r.2.2.2.2.2)) w t) : Option Value × zk_H) = _
      simp only [zr_follow, if_neg c1, z3] <;> rfl
/-- BasketKeep$Walk.followBare -/
theorem zs_followBareP (sp : Nat) (hs : v 53 1 = nI sp) (hsp : sp ≤ 60) (fe : Int32) : zk_Cr zk_mt zk_ex Ls xs 206 [.ref 53, .int fe] (zH v w t) (some (.int ((zr_follow (v 54) (v 53 0) sp fe 0 0 0).1)), zH (zb v 53 (upd (upd (upd (upd (upd (v 53) 3 ((zr_follow (v 54) (v 53 0) sp fe 0 0 0).2.1)) 4 ((zr_follow (v 54) (v 53 0) sp fe 0 0 0).2.2.1)) 5 ((zr_follow (v 54) (v 53 0) sp fe 0 0 0).2.2.2.1)) 6 ((zr_follow (v 54) (v 53 0) sp fe 0 0 0).2.2.2.2.1)) 7 ((zr_follow (v 54) (v 53 0) sp fe 0 0 0).2.2.2.2.2))) w t) := by
  refine zk_Cr.of (K := zm_206) rfl rfl rfl ?_
  show zk_T zk_mt zk_ex Ls xs zm_206 (0, [(0, .ref 53), (1, .int fe)], []) (zH v w t) _
  refine zk_T.adv 5 (f' := (5, [(0, .ref 53), (1, .int fe)], [.int 0, .int 0, .int 0, .int fe, .ref 53])) (h' := zH v w t) rfl ?_
  refine zk_T.cl (v := some (.int ((zr_follow (v 54) (v 53 0) sp fe 0 0 0).1))) (h' := zH (zb v 53 (upd (upd (upd (upd (upd (v 53) 3 ((zr_follow (v 54) (v 53 0) sp fe 0 0 0).2.1)) 4 ((zr_follow (v 54) (v 53 0) sp fe 0 0 0).2.2.1)) 5 ((zr_follow (v 54) (v 53 0) sp fe 0 0 0).2.2.2.1)) 6 ((zr_follow (v 54) (v 53 0) sp fe 0 0 0).2.2.2.2.1)) 7 ((zr_follow (v 54) (v 53 0) sp fe 0 0 0).2.2.2.2.2))) w t) rfl (zs_followP (v := v) sp hs hsp fe 0 0 0) ?_
  show zk_T zk_mt zk_ex Ls xs zm_206 (8, [(0, .ref 53), (1, .int fe)], [.int ((zr_follow (v 54) (v 53 0) sp fe 0 0 0).1)]) (zH (zb v 53 (upd (upd (upd (upd (upd (v 53) 3 ((zr_follow (v 54) (v 53 0) sp fe 0 0 0).2.1)) 4 ((zr_follow (v 54) (v 53 0) sp fe 0 0 0).2.2.1)) 5 ((zr_follow (v 54) (v 53 0) sp fe 0 0 0).2.2.2.1)) 6 ((zr_follow (v 54) (v 53 0) sp fe 0 0 0).2.2.2.2.1)) 7 ((zr_follow (v 54) (v 53 0) sp fe 0 0 0).2.2.2.2.2))) w t) _
  exact zk_T.rt rfl (decide_eq_true (zr_follow01 _ _ _ _ _ _ _)) (by rfl)
/-- BasketKeep$Walk.followIn -/
theorem zs_followInP_now (sp : Nat) (hs : v 53 1 = nI sp) (hsp : sp ≤ 60) (a e : Nat) (ha : a < 4) (he : e < 5) (hke : v 23 e = 0 ∨ v 23 e = 1 ∨ v 23 e = 2) (th sl : Int32) : zk_Cr zk_mt zk_ex Ls xs 207 [.ref 53, .ref 20, .ref 32, .int (nI a), .int (nI e), .int th, .int sl] (zH v w t) (some (.int ((zr_follow (v 54) (v 53 0) sp (v 27 a) (v 35 e) ((zr_heldOff (v 23 e) th 1) &&& (sl ^^^ (-1))) ((zr_heldOff (v 23 e) th 2) &&& (sl ^^^ (-1)))).1)), zH (zb v 53 (upd (upd (upd (upd (upd (v 53) 3 ((zr_follow (v 54) (v 53 0) sp (v 27 a) (v 35 e) ((zr_heldOff (v 23 e) th 1) &&& (sl ^^^ (-1))) ((zr_heldOff (v 23 e) th 2) &&& (sl ^^^ (-1)))).2.1)) 4 ((zr_follow (v 54) (v 53 0) sp (v 27 a) (v 35 e) ((zr_heldOff (v 23 e) th 1) &&& (sl ^^^ (-1))) ((zr_heldOff (v 23 e) th 2) &&& (sl ^^^ (-1)))).2.2.1)) 5 ((zr_follow (v 54) (v 53 0) sp (v 27 a) (v 35 e) ((zr_heldOff (v 23 e) th 1) &&& (sl ^^^ (-1))) ((zr_heldOff (v 23 e) th 2) &&& (sl ^^^ (-1)))).2.2.2.1)) 6 ((zr_follow (v 54) (v 53 0) sp (v 27 a) (v 35 e) ((zr_heldOff (v 23 e) th 1) &&& (sl ^^^ (-1))) ((zr_heldOff (v 23 e) th 2) &&& (sl ^^^ (-1)))).2.2.2.2.1)) 7 ((zr_follow (v 54) (v 53 0) sp (v 27 a) (v 35 e) ((zr_heldOff (v 23 e) th 1) &&& (sl ^^^ (-1))) ((zr_heldOff (v 23 e) th 2) &&& (sl ^^^ (-1)))).2.2.2.2.2))) w t) := by
  refine zk_Cr.of (K := zm_207) rfl rfl rfl ?_
  show zk_T zk_mt zk_ex Ls xs zm_207 (0, [(0, .ref 53), (1, .ref 20), (2, .ref 32), (3, .int (nI a)), (4, .int (nI e)), (5, .int th), (6, .int sl)], []) (zH v w t) _
  refine zk_T.adv 4 (f' := (6, [(0, .ref 53), (1, .ref 20), (2, .ref 32), (3, .int (nI a)), (4, .int (nI e)), (5, .int th), (6, .int sl)], [.int 1, .int th, .int (nI e), .ref 20])) (h' := zH v w t) rfl ?_
  refine zk_T.cl (v := some (.int (zr_heldOff (v 23 e) th 1))) (h' := zH v w t) rfl (zs_heldOff (v := v) e (by omega) hke th 1) ?_
  show zk_T zk_mt zk_ex Ls xs zm_207 (9, [(0, .ref 53), (1, .ref 20), (2, .ref 32), (3, .int (nI a)), (4, .int (nI e)), (5, .int th), (6, .int sl)], [.int (zr_heldOff (v 23 e) th 1)]) (zH v w t) _
  refine zk_T.adv 9 (f' := (22, [(0, .ref 53), (1, .ref 20), (2, .ref 32), (3, .int (nI a)), (4, .int (nI e)), (5, .int th), (6, .int sl), (7, .int ((zr_heldOff (v 23 e) th 1) &&& (sl ^^^ (-1))))], [.int 2, .int th, .int (nI e), .ref 20])) (h' := zH v w t) rfl ?_
  refine zk_T.cl (v := some (.int (zr_heldOff (v 23 e) th 2))) (h' := zH v w t) rfl (zs_heldOff (v := v) e (by omega) hke th 2) ?_
  show zk_T zk_mt zk_ex Ls xs zm_207 (25, [(0, .ref 53), (1, .ref 20), (2, .ref 32), (3, .int (nI a)), (4, .int (nI e)), (5, .int th), (6, .int sl), (7, .int ((zr_heldOff (v 23 e) th 1) &&& (sl ^^^ (-1))))], [.int (zr_heldOff (v 23 e) th 2)]) (zH v w t) _
  refine zk_T.adv 9 (f' := (38, [(0, .ref 53), (1, .ref 20), (2, .ref 32), (3, .int (nI a)), (4, .int (nI e)), (5, .int th), (6, .int sl), (7, .int ((zr_heldOff (v 23 e) th 1) &&& (sl ^^^ (-1)))), (8, .int ((zr_heldOff (v 23 e) th 2) &&& (sl ^^^ (-1))))], [.int (nI a), .ref 27, .ref 53])) (h' := zH v w t) rfl ?_
  refine zk_T.ob (f' := (39, [(0, .ref 53), (1, .ref 20), (2, .ref 32), (3, .int (nI a)), (4, .int (nI e)), (5, .int th), (6, .int sl), (7, .int ((zr_heldOff (v 23 e) th 1) &&& (sl ^^^ (-1)))), (8, .int ((zr_heldOff (v 23 e) th 2) &&& (sl ^^^ (-1))))], [.int (v 27 (nI a).toNatClampNeg), .ref 53])) (h' := zH v w t) rfl (by first | exact zk_inN (by omega) (by decide) | decide) ?_
  rw [nI_clamp (show a < 2 ^ 31 by omega)]
  refine zk_T.adv 3 (f' := (45, [(0, .ref 53), (1, .ref 20), (2, .ref 32), (3, .int (nI a)), (4, .int (nI e)), (5, .int th), (6, .int sl), (7, .int ((zr_heldOff (v 23 e) th 1) &&& (sl ^^^ (-1)))), (8, .int ((zr_heldOff (v 23 e) th 2) &&& (sl ^^^ (-1))))], [.int (nI e), .ref 35, .int (v 27 a), .ref 53])) (h' := zH v w t) rfl ?_
  refine zk_T.ob (f' := (46, [(0, .ref 53), (1, .ref 20), (2, .ref 32), (3, .int (nI a)), (4, .int (nI e)), (5, .int th), (6, .int sl), (7, .int ((zr_heldOff (v 23 e) th 1) &&& (sl ^^^ (-1)))), (8, .int ((zr_heldOff (v 23 e) th 2) &&& (sl ^^^ (-1))))], [.int (v 35 (nI e).toNatClampNeg), .int (v 27 a), .ref 53])) (h' := zH v w t) rfl (by first | exact zk_inN (by omega) (by decide) | decide) ?_
  rw [nI_clamp (show e < 2 ^ 31 by omega)]
  refine zk_T.adv 2 (f' := (50, [(0, .ref 53), (1, .ref 20), (2, .ref 32), (3, .int (nI a)), (4, .int (nI e)), (5, .int th), (6, .int sl), (7, .int ((zr_heldOff (v 23 e) th 1) &&& (sl ^^^ (-1)))), (8, .int ((zr_heldOff (v 23 e) th 2) &&& (sl ^^^ (-1))))], [.int ((zr_heldOff (v 23 e) th 2) &&& (sl ^^^ (-1))), .int ((zr_heldOff (v 23 e) th 1) &&& (sl ^^^ (-1))), .int (v 35 e), .int (v 27 a), .ref 53])) (h' := zH v w t) rfl ?_
  refine zk_T.cl (v := some (.int ((zr_follow (v 54) (v 53 0) sp (v 27 a) (v 35 e) ((zr_heldOff (v 23 e) th 1) &&& (sl ^^^ (-1))) ((zr_heldOff (v 23 e) th 2) &&& (sl ^^^ (-1)))).1))) (h' := zH (zb v 53 (upd (upd (upd (upd (upd (v 53) 3 ((zr_follow (v 54) (v 53 0) sp (v 27 a) (v 35 e) ((zr_heldOff (v 23 e) th 1) &&& (sl ^^^ (-1))) ((zr_heldOff (v 23 e) th 2) &&& (sl ^^^ (-1)))).2.1)) 4 ((zr_follow (v 54) (v 53 0) sp (v 27 a) (v 35 e) ((zr_heldOff (v 23 e) th 1) &&& (sl ^^^ (-1))) ((zr_heldOff (v 23 e) th 2) &&& (sl ^^^ (-1)))).2.2.1)) 5 ((zr_follow (v 54) (v 53 0) sp (v 27 a) (v 35 e) ((zr_heldOff (v 23 e) th 1) &&& (sl ^^^ (-1))) ((zr_heldOff (v 23 e) th 2) &&& (sl ^^^ (-1)))).2.2.2.1)) 6 ((zr_follow (v 54) (v 53 0) sp (v 27 a) (v 35 e) ((zr_heldOff (v 23 e) th 1) &&& (sl ^^^ (-1))) ((zr_heldOff (v 23 e) th 2) &&& (sl ^^^ (-1)))).2.2.2.2.1)) 7 ((zr_follow (v 54) (v 53 0) sp (v 27 a) (v 35 e) ((zr_heldOff (v 23 e) th 1) &&& (sl ^^^ (-1))) ((zr_heldOff (v 23 e) th 2) &&& (sl ^^^ (-1)))).2.2.2.2.2))) w t) rfl (zs_followP (v := v) sp hs hsp (v 27 a) (v 35 e) ((zr_heldOff (v 23 e) th 1) &&& (sl ^^^ (-1))) ((zr_heldOff (v 23 e) th 2) &&& (sl ^^^ (-1)))) ?_
  show zk_T zk_mt zk_ex Ls xs zm_207 (53, [(0, .ref 53), (1, .ref 20), (2, .ref 32), (3, .int (nI a)), (4, .int (nI e)), (5, .int th), (6, .int sl), (7, .int ((zr_heldOff (v 23 e) th 1) &&& (sl ^^^ (-1)))), (8, .int ((zr_heldOff (v 23 e) th 2) &&& (sl ^^^ (-1))))], [.int ((zr_follow (v 54) (v 53 0) sp (v 27 a) (v 35 e) ((zr_heldOff (v 23 e) th 1) &&& (sl ^^^ (-1))) ((zr_heldOff (v 23 e) th 2) &&& (sl ^^^ (-1)))).1)]) (zH (zb v 53 (upd (upd (upd (upd (upd (v 53) 3 ((zr_follow (v 54) (v 53 0) sp (v 27 a) (v 35 e) ((zr_heldOff (v 23 e) th 1) &&& (sl ^^^ (-1))) ((zr_heldOff (v 23 e) th 2) &&& (sl ^^^ (-1)))).2.1)) 4 ((zr_follow (v 54) (v 53 0) sp (v 27 a) (v 35 e) ((zr_heldOff (v 23 e) th 1) &&& (sl ^^^ (-1))) ((zr_heldOff (v 23 e) th 2) &&& (sl ^^^ (-1)))).2.2.1)) 5 ((zr_follow (v 54) (v 53 0) sp (v 27 a) (v 35 e) ((zr_heldOff (v 23 e) th 1) &&& (sl ^^^ (-1))) ((zr_heldOff (v 23 e) th 2) &&& (sl ^^^ (-1)))).2.2.2.1)) 6 ((zr_follow (v 54) (v 53 0) sp (v 27 a) (v 35 e) ((zr_heldOff (v 23 e) th 1) &&& (sl ^^^ (-1))) ((zr_heldOff (v 23 e) th 2) &&& (sl ^^^ (-1)))).2.2.2.2.1)) 7 ((zr_follow (v 54) (v 53 0) sp (v 27 a) (v 35 e) ((zr_heldOff (v 23 e) th 1) &&& (sl ^^^ (-1))) ((zr_heldOff (v 23 e) th 2) &&& (sl ^^^ (-1)))).2.2.2.2.2))) w t) _
  exact zk_T.rt rfl (decide_eq_true (zr_follow01 _ _ _ _ _ _ _)) (by rfl)
theorem zl_aimD (D : Nat) (hD : v 20 1 = nI D) (h8 : D ≤ 8) (yg : Int32) (sp : Nat) (hsp : sp ≤ 60) : ∀ (s : (Nat → Int32)) (q : Option Value × zk_H), zk_T zk_mt zk_ex Ls xs zm_98 ((fun (s : (Nat → Int32)) => ((54, [(0, .ref 58), (1, .ref 20), (4, .int (nI (1 + sp)))], []) : zk_F)) (zf (zl_aimG D (v 21) (v 22) yg) sp 1 s)) ((fun (s : (Nat → Int32)) => zH (zb (zb v 58 (upd (upd (v 58) 0 yg) 1 (nI sp))) 59 s) w t) (zf (zl_aimG D (v 21) (v 22) yg) sp 1 s)) q → zk_T zk_mt zk_ex Ls xs zm_98 (21, [(0, .ref 58), (1, .ref 20), (4, .int (nI 1))], []) (zH (zb (zb v 58 (upd (upd (v 58) 0 yg) 1 (nI sp))) 59 s) w t) q := by
  intro s q hk
  refine zk_forK (M := zm_98) (fun j (s : (Nat → Int32)) => (21, [(0, .ref 58), (1, .ref 20), (4, .int (nI j))], [])) (fun _ (s : (Nat → Int32)) => zH (zb (zb v 58 (upd (upd (v 58) 0 yg) 1 (nI sp))) 59 s) w t) (zl_aimG D (v 21) (v 22) yg) (fun _ _ => True) (fun (s : (Nat → Int32)) => (54, [(0, .ref 58), (1, .ref 20), (4, .int (nI (1 + sp)))], [])) (fun (s : (Nat → Int32)) => zH (zb (zb v 58 (upd (upd (v 58) 0 yg) 1 (nI sp))) 59 s) w t) (sp) 1 s (fun _ _ _ _ _ => trivial) (fun j s hj1 hj2 hp q hk => ?_) (fun s hp q hk => ?_) ?_ q hk
  · have hz := True.intro
    obtain ⟨sk, rfl⟩ : ∃ z, z = s := ⟨_, rfl⟩
    show zk_T zk_mt zk_ex Ls xs zm_98 (21, [(0, .ref 58), (1, .ref 20), (4, .int (nI j))], []) (zH (zb (zb v 58 (upd (upd (v 58) 0 yg) 1 (nI sp))) 59 sk) w t) q
    refine zk_T.adv 3 (f' := (27, [(0, .ref 58), (1, .ref 20), (4, .int (nI j))], [.int (nI sp), .int (nI j)])) (h' := zH (zb (zb v 58 (upd (upd (v 58) 0 yg) 1 (nI sp))) 59 sk) w t) rfl ?_
    refine zk_T.br (f1 := (54, [(0, .ref 58), (1, .ref 20), (4, .int (nI j))], [])) (f2 := (30, [(0, .ref 58), (1, .ref 20), (4, .int (nI j))], [])) rfl (fun c1 => absurd (of_decide_eq_true c1) (nI_nlt (show j ≤ sp by omega) (by omega))) (fun c1 => ?_)
    refine zk_T.adv 8 (f' := (44, [(0, .ref 58), (1, .ref 20), (4, .int (nI j))], [.int (yg + (nI j)), .ref 20, .int (nI j), .ref 59])) (h' := zH (zb (zb v 58 (upd (upd (v 58) 0 yg) 1 (nI sp))) 59 sk) w t) rfl ?_
    refine zk_T.cl (v := some (.int (zr_strikingIn D (v 21) (v 22) (yg + (nI j))))) (h' := zH (zb (zb v 58 (upd (upd (v 58) 0 yg) 1 (nI sp))) 59 sk) w t) rfl (zs_strikingIn (v := (zb (zb v 58 (upd (upd (v 58) 0 yg) 1 (nI sp))) 59 sk)) D hD h8 (yg + (nI j))) ?_
    show zk_T zk_mt zk_ex Ls xs zm_98 (47, [(0, .ref 58), (1, .ref 20), (4, .int (nI j))], [.int (zr_strikingIn D (v 21) (v 22) (yg + (nI j))), .int (nI j), .ref 59]) (zH (zb (zb v 58 (upd (upd (v 58) 0 yg) 1 (nI sp))) 59 sk) w t) _
    refine zk_T.ob (f' := (48, [(0, .ref 58), (1, .ref 20), (4, .int (nI j))], [])) (h' := zH (zb (zb v 58 (upd (upd (v 58) 0 yg) 1 (nI sp))) 59 (upd sk (nI j).toNatClampNeg (zr_strikingIn D (v 21) (v 22) (yg + (nI j))))) w t) rfl (by first | exact zk_inN (by omega) (by decide) | decide) ?_
    rw [nI_clamp (show j < 2 ^ 31 by omega)]
    refine zk_T.adv 2 (f' := (21, [(0, .ref 58), (1, .ref 20), (4, .int ((nI j) + 1))], [])) (h' := zH (zb (zb v 58 (upd (upd (v 58) 0 yg) 1 (nI sp))) 59 (upd sk j (zr_strikingIn D (v 21) (v 22) (yg + (nI j))))) w t) rfl ?_
    rw [nI_1]
    simp only [zl_aimG] at hk
    exact hk
  · have hz := True.intro
    obtain ⟨sk, rfl⟩ : ∃ z, z = s := ⟨_, rfl⟩
    show zk_T zk_mt zk_ex Ls xs zm_98 (21, [(0, .ref 58), (1, .ref 20), (4, .int (nI (1 + sp)))], []) (zH (zb (zb v 58 (upd (upd (v 58) 0 yg) 1 (nI sp))) 59 sk) w t) q
    refine zk_T.adv 3 (f' := (27, [(0, .ref 58), (1, .ref 20), (4, .int (nI (1 + sp)))], [.int (nI sp), .int (nI (1 + sp))])) (h' := zH (zb (zb v 58 (upd (upd (v 58) 0 yg) 1 (nI sp))) 59 sk) w t) rfl ?_
    refine zk_T.br (f1 := (54, [(0, .ref 58), (1, .ref 20), (4, .int (nI (1 + sp)))], [])) (f2 := (30, [(0, .ref 58), (1, .ref 20), (4, .int (nI (1 + sp)))], [])) rfl (fun c1 => ?_) (fun c1 => absurd (nI_lt (show sp < 1 + sp by omega) (by omega)) (of_decide_eq_false c1))
    exact hk
  · exact trivial
/-- BasketKeep$Walk.aim -/
theorem zs_aimD_start (D : Nat) (hD : v 20 1 = nI D) (h8 : D ≤ 8) (sp : Nat) (hsp : sp ≤ 60) : zk_Cr zk_mt zk_ex Ls xs 98 [.ref 58, .ref 20, .ref 60, .int (nI sp)] (zH v w t) (none, zH (zb (zb v 58 (upd (upd (v 58) 0 (v 60 0)) 1 (nI sp))) 59 (zf (zl_aimG D (v 21) (v 22) (v 60 0)) sp 1 (v 59))) w t) := by
  refine zk_Cr.of (K := zm_98) rfl rfl rfl ?_
  show zk_T zk_mt zk_ex Ls xs zm_98 (0, [(0, .ref 58), (1, .ref 20), (2, .ref 60), (3, .int (nI sp))], []) (zH v w t) _
  refine zk_T.adv 7 (f' := (12, [(0, .ref 58), (1, .ref 20), (2, .ref 60), (3, .int (nI sp))], [.int 60, .int (nI sp), .ref 58])) (h' := zH (zb v 58 (upd (v 58) 0 (v 60 0))) w t) rfl ?_
  refine zk_T.cl (v := some (.int (nI sp))) (h' := zH (zb v 58 (upd (v 58) 0 (v 60 0))) w t) rfl (zs_min60 sp hsp) ?_
  show zk_T zk_mt zk_ex Ls xs zm_98 (15, [(0, .ref 58), (1, .ref 20), (2, .ref 60), (3, .int (nI sp))], [.int (nI sp), .ref 58]) (zH (zb v 58 (upd (v 58) 0 (v 60 0))) w t) _
  refine zk_T.adv 3 (f' := (21, [(0, .ref 58), (1, .ref 20), (4, .int 1)], [])) (h' := zH (zb v 58 (upd (upd (v 58) 0 (v 60 0)) 1 (nI sp))) w t) rfl ?_
  refine zl_aimD D hD h8 (v 60 0) sp hsp (v 59) _ ?_
  show zk_T zk_mt zk_ex Ls xs zm_98 (54, [(0, .ref 58), (1, .ref 20), (4, .int (nI (1 + sp)))], []) (zH (zb (zb v 58 (upd (upd (v 58) 0 (v 60 0)) 1 (nI sp))) 59 (zf (zl_aimG D (v 21) (v 22) (v 60 0)) sp 1 (v 59))) w t) _
  exact zk_T.rt rfl rfl (by rfl)
theorem zl_followD (sp : Nat) (hs : v 58 1 = nI sp) (hsp : sp ≤ 60) (fe od ev : Int32) : ∀ (s : Int32 × Int32 × Int32 × Int32 × Int32) (q : Option Value × zk_H), zk_or (fun (s : Int32 × Int32 × Int32 × Int32 × Int32) => zk_T zk_mt zk_ex Ls xs zm_159 (101, [(0, .ref 58), (1, .int fe), (3, .int od), (4, .int ev), (5, .int (nI (1 + sp)))], []) (zH (zb v 58 (upd (upd (upd (upd (upd (v 58) 3 s.1) 4 s.2.1) 5 s.2.2.1) 6 s.2.2.2.1) 7 s.2.2.2.2)) w t) q) (fun (r : Int32 × Int32 × Int32 × Int32 × Int32 × Int32) => (some (.int r.1), zH (zb v 58 (upd (upd (upd (upd (upd (v 58) 3 r.2.1) 4 r.2.2.1) 5 r.2.2.2.1) 6 r.2.2.2.2.1) 7 r.2.2.2.2.2)) w t) = q) (zfr (zl_followG (v 59) (v 58 0) fe od ev) sp 1 s) → zk_T zk_mt zk_ex Ls xs zm_159 (42, [(0, .ref 58), (1, .int fe), (3, .int od), (4, .int ev), (5, .int (nI 1))], []) (zH (zb v 58 (upd (upd (upd (upd (upd (v 58) 3 s.1) 4 s.2.1) 5 s.2.2.1) 6 s.2.2.2.1) 7 s.2.2.2.2)) w t) q := by
  intro s q hk
  refine zk_forX (M := zm_159) (fun j (s : Int32 × Int32 × Int32 × Int32 × Int32) => (42, [(0, .ref 58), (1, .int fe), (3, .int od), (4, .int ev), (5, .int (nI j))], [])) (fun _ (s : Int32 × Int32 × Int32 × Int32 × Int32) => zH (zb v 58 (upd (upd (upd (upd (upd (v 58) 3 s.1) 4 s.2.1) 5 s.2.2.1) 6 s.2.2.2.1) 7 s.2.2.2.2)) w t) (zl_followG (v 59) (v 58 0) fe od ev) (fun _ _ => True) (fun (s : Int32 × Int32 × Int32 × Int32 × Int32) => (101, [(0, .ref 58), (1, .int fe), (3, .int od), (4, .int ev), (5, .int (nI (1 + sp)))], [])) (fun (s : Int32 × Int32 × Int32 × Int32 × Int32) => zH (zb v 58 (upd (upd (upd (upd (upd (v 58) 3 s.1) 4 s.2.1) 5 s.2.2.1) 6 s.2.2.2.1) 7 s.2.2.2.2)) w t) (fun r q => (some (.int r.1), zH (zb v 58 (upd (upd (upd (upd (upd (v 58) 3 r.2.1) 4 r.2.2.1) 5 r.2.2.2.1) 6 r.2.2.2.2.1) 7 r.2.2.2.2.2)) w t) = q) (sp) 1 s (fun _ _ _ _ _ _ _ => trivial) (fun j s hj1 hj2 hp q hk => ?_) (fun s hp q hk => ?_) ?_ q hk
  · obtain ⟨la, lt, wo, ls, kp⟩ := s
    show zk_T zk_mt zk_ex Ls xs zm_159 (42, [(0, .ref 58), (1, .int fe), (3, .int od), (4, .int ev), (5, .int (nI j))], []) (zH (zb v 58 (upd (upd (upd (upd (upd (v 58) 3 la) 4 lt) 5 wo) 6 ls) 7 kp)) w t) q
    refine zk_T.adv 3 (f' := (48, [(0, .ref 58), (1, .int fe), (3, .int od), (4, .int ev), (5, .int (nI j))], [.int (v 58 1), .int (nI j)])) (h' := zH (zb v 58 (upd (upd (upd (upd (upd (v 58) 3 la) 4 lt) 5 wo) 6 ls) 7 kp)) w t) rfl ?_
    refine zk_T.br (f1 := (101, [(0, .ref 58), (1, .int fe), (3, .int od), (4, .int ev), (5, .int (nI j))], [])) (f2 := (51, [(0, .ref 58), (1, .int fe), (3, .int od), (4, .int ev), (5, .int (nI j))], [])) rfl (fun c1 => absurd (of_decide_eq_true c1) (by rw [hs]; exact nI_nlt (show j ≤ sp by omega) (by omega))) (fun c1 => ?_)
    refine zk_T.adv 5 (f' := (59, [(0, .ref 58), (1, .int fe), (3, .int od), (4, .int ev), (5, .int (nI j))], [.int 2, .int ((v 58 0) + (nI j))])) (h' := zH (zb v 58 (upd (upd (upd (upd (upd (v 58) 3 la) 4 lt) 5 wo) 6 ls) 7 kp)) w t) rfl ?_
    refine zk_T.ob (f' := (60, [(0, .ref 58), (1, .int fe), (3, .int od), (4, .int ev), (5, .int (nI j))], [.int (((v 58 0) + (nI j)) - ((v 58 0) + (nI j)) / 2 * 2)])) (h' := zH (zb v 58 (upd (upd (upd (upd (upd (v 58) 3 la) 4 lt) 5 wo) 6 ls) 7 kp)) w t) rfl (by decide) ?_
    refine zk_T.br (f1 := (63, [(0, .ref 58), (1, .int fe), (3, .int od), (4, .int ev), (5, .int (nI j))], [])) (f2 := (68, [(0, .ref 58), (1, .int fe), (3, .int od), (4, .int ev), (5, .int (nI j))], [])) rfl (fun c2 => ?_) (fun c2 => ?_)
    · have c2 : (((v 58 0) + (nI j)) - ((v 58 0) + (nI j)) / 2 * 2) = 0 := of_decide_eq_true c2
      refine zk_T.adv 6 (f' := (77, [(0, .ref 58), (1, .int fe), (3, .int od), (4, .int ev), (5, .int (nI j)), (6, .int ev)], [.int (nI j), .ref 59])) (h' := zH (zb v 58 (upd (upd (upd (upd (upd (v 58) 3 la) 4 lt) 5 wo) 6 ls) 7 kp)) w t) rfl ?_
      refine zk_T.ob (f' := (78, [(0, .ref 58), (1, .int fe), (3, .int od), (4, .int ev), (5, .int (nI j)), (6, .int ev)], [.int (v 59 (nI j).toNatClampNeg)])) (h' := zH (zb v 58 (upd (upd (upd (upd (upd (v 58) 3 la) 4 lt) 5 wo) 6 ls) 7 kp)) w t) rfl (by first | exact zk_inN (by omega) (by decide) | decide) ?_
      rw [nI_clamp (show j < 2 ^ 31 by omega)]
      refine zk_T.br (f1 := (95, [(0, .ref 58), (1, .int fe), (3, .int od), (4, .int ev), (5, .int (nI j)), (6, .int ev)], [])) (f2 := (81, [(0, .ref 58), (1, .int fe), (3, .int od), (4, .int ev), (5, .int (nI j)), (6, .int ev)], [])) rfl (fun c3 => ?_) (fun c3 => ?_)
      · have c3 : (v 59 j) = 0 := of_decide_eq_true c3
        refine zk_T.adv 2 (f' := (42, [(0, .ref 58), (1, .int fe), (3, .int od), (4, .int ev), (5, .int ((nI j) + 1))], [])) (h' := zH (zb v 58 (upd (upd (upd (upd (upd (v 58) 3 la) 4 lt) 5 wo) 6 ls) 7 kp)) w t) rfl ?_
        rw [nI_1]
        simp only [zl_followG, zk_or, if_pos c2, if_pos c3] at hk
        exact hk
      · have c3 : ¬ ((v 59 j) = 0) := of_decide_eq_false c3
        refine zk_T.adv 4 (f' := (87, [(0, .ref 58), (1, .int fe), (3, .int od), (4, .int ev), (5, .int (nI j)), (6, .int ev)], [.int ev, .int fe, .int (nI j), .ref 58])) (h' := zH (zb v 58 (upd (upd (upd (upd (upd (v 58) 3 la) 4 lt) 5 wo) 6 ls) 7 kp)) w t) rfl ?_
        refine zk_T.cl (v := some (.int ((zr_oy (v 59 j) la lt wo ls kp j fe ev).1))) (h' := zH (zb v 58 (upd (upd (upd (upd (upd (v 58) 3 ((zr_oy (v 59 j) la lt wo ls kp j fe ev).2.1)) 4 ((zr_oy (v 59 j) la lt wo ls kp j fe ev).2.2.1)) 5 ((zr_oy (v 59 j) la lt wo ls kp j fe ev).2.2.2.1)) 6 ((zr_oy (v 59 j) la lt wo ls kp j fe ev).2.2.2.2.1)) 7 ((zr_oy (v 59 j) la lt wo ls kp j fe ev).2.2.2.2.2))) w t) rfl (zs_oyD j (by omega) fe ev) ?_
        show zk_T zk_mt zk_ex Ls xs zm_159 (90, [(0, .ref 58), (1, .int fe), (3, .int od), (4, .int ev), (5, .int (nI j)), (6, .int ev)], [.int ((zr_oy (v 59 j) la lt wo ls kp j fe ev).1)]) (zH (zb v 58 (upd (upd (upd (upd (upd (v 58) 3 ((zr_oy (v 59 j) la lt wo ls kp j fe ev).2.1)) 4 ((zr_oy (v 59 j) la lt wo ls kp j fe ev).2.2.1)) 5 ((zr_oy (v 59 j) la lt wo ls kp j fe ev).2.2.2.1)) 6 ((zr_oy (v 59 j) la lt wo ls kp j fe ev).2.2.2.2.1)) 7 ((zr_oy (v 59 j) la lt wo ls kp j fe ev).2.2.2.2.2))) w t) _
        refine zk_T.br (f1 := (93, [(0, .ref 58), (1, .int fe), (3, .int od), (4, .int ev), (5, .int (nI j)), (6, .int ev)], [])) (f2 := (95, [(0, .ref 58), (1, .int fe), (3, .int od), (4, .int ev), (5, .int (nI j)), (6, .int ev)], [])) rfl (fun c4 => ?_) (fun c4 => ?_)
        · have c4 : ((zr_oy (v 59 j) la lt wo ls kp j fe ev).1) = 0 := of_decide_eq_true c4
          refine zk_T.adv 1 (f' := (94, [(0, .ref 58), (1, .int fe), (3, .int od), (4, .int ev), (5, .int (nI j)), (6, .int ev)], [.int 0])) (h' := zH (zb v 58 (upd (upd (upd (upd (upd (v 58) 3 ((zr_oy (v 59 j) la lt wo ls kp j fe ev).2.1)) 4 ((zr_oy (v 59 j) la lt wo ls kp j fe ev).2.2.1)) 5 ((zr_oy (v 59 j) la lt wo ls kp j fe ev).2.2.2.1)) 6 ((zr_oy (v 59 j) la lt wo ls kp j fe ev).2.2.2.2.1)) 7 ((zr_oy (v 59 j) la lt wo ls kp j fe ev).2.2.2.2.2))) w t) rfl ?_
          simp only [zl_followG, zk_or, if_pos c2, if_neg c3, if_pos c4] at hk
          exact zk_T.rt rfl rfl hk
        · have c4 : ¬ (((zr_oy (v 59 j) la lt wo ls kp j fe ev).1) = 0) := of_decide_eq_false c4
          refine zk_T.adv 2 (f' := (42, [(0, .ref 58), (1, .int fe), (3, .int od), (4, .int ev), (5, .int ((nI j) + 1))], [])) (h' := zH (zb v 58 (upd (upd (upd (upd (upd (v 58) 3 ((zr_oy (v 59 j) la lt wo ls kp j fe ev).2.1)) 4 ((zr_oy (v 59 j) la lt wo ls kp j fe ev).2.2.1)) 5 ((zr_oy (v 59 j) la lt wo ls kp j fe ev).2.2.2.1)) 6 ((zr_oy (v 59 j) la lt wo ls kp j fe ev).2.2.2.2.1)) 7 ((zr_oy (v 59 j) la lt wo ls kp j fe ev).2.2.2.2.2))) w t) rfl ?_
          rw [nI_1]
          simp only [zl_followG, zk_or, if_pos c2, if_neg c3, if_neg c4] at hk
          exact hk
    · have c2 : ¬ ((((v 58 0) + (nI j)) - ((v 58 0) + (nI j)) / 2 * 2) = 0) := of_decide_eq_false c2
      refine zk_T.adv 5 (f' := (77, [(0, .ref 58), (1, .int fe), (3, .int od), (4, .int ev), (5, .int (nI j)), (6, .int od)], [.int (nI j), .ref 59])) (h' := zH (zb v 58 (upd (upd (upd (upd (upd (v 58) 3 la) 4 lt) 5 wo) 6 ls) 7 kp)) w t) rfl ?_
      refine zk_T.ob (f' := (78, [(0, .ref 58), (1, .int fe), (3, .int od), (4, .int ev), (5, .int (nI j)), (6, .int od)], [.int (v 59 (nI j).toNatClampNeg)])) (h' := zH (zb v 58 (upd (upd (upd (upd (upd (v 58) 3 la) 4 lt) 5 wo) 6 ls) 7 kp)) w t) rfl (by first | exact zk_inN (by omega) (by decide) | decide) ?_
      rw [nI_clamp (show j < 2 ^ 31 by omega)]
      refine zk_T.br (f1 := (95, [(0, .ref 58), (1, .int fe), (3, .int od), (4, .int ev), (5, .int (nI j)), (6, .int od)], [])) (f2 := (81, [(0, .ref 58), (1, .int fe), (3, .int od), (4, .int ev), (5, .int (nI j)), (6, .int od)], [])) rfl (fun c5 => ?_) (fun c5 => ?_)
      · have c5 : (v 59 j) = 0 := of_decide_eq_true c5
        refine zk_T.adv 2 (f' := (42, [(0, .ref 58), (1, .int fe), (3, .int od), (4, .int ev), (5, .int ((nI j) + 1))], [])) (h' := zH (zb v 58 (upd (upd (upd (upd (upd (v 58) 3 la) 4 lt) 5 wo) 6 ls) 7 kp)) w t) rfl ?_
        rw [nI_1]
        simp only [zl_followG, zk_or, if_neg c2, if_pos c5] at hk
        exact hk
      · have c5 : ¬ ((v 59 j) = 0) := of_decide_eq_false c5
        refine zk_T.adv 4 (f' := (87, [(0, .ref 58), (1, .int fe), (3, .int od), (4, .int ev), (5, .int (nI j)), (6, .int od)], [.int od, .int fe, .int (nI j), .ref 58])) (h' := zH (zb v 58 (upd (upd (upd (upd (upd (v 58) 3 la) 4 lt) 5 wo) 6 ls) 7 kp)) w t) rfl ?_
        refine zk_T.cl (v := some (.int ((zr_oy (v 59 j) la lt wo ls kp j fe od).1))) (h' := zH (zb v 58 (upd (upd (upd (upd (upd (v 58) 3 ((zr_oy (v 59 j) la lt wo ls kp j fe od).2.1)) 4 ((zr_oy (v 59 j) la lt wo ls kp j fe od).2.2.1)) 5 ((zr_oy (v 59 j) la lt wo ls kp j fe od).2.2.2.1)) 6 ((zr_oy (v 59 j) la lt wo ls kp j fe od).2.2.2.2.1)) 7 ((zr_oy (v 59 j) la lt wo ls kp j fe od).2.2.2.2.2))) w t) rfl (zs_oyD j (by omega) fe od) ?_
        show zk_T zk_mt zk_ex Ls xs zm_159 (90, [(0, .ref 58), (1, .int fe), (3, .int od), (4, .int ev), (5, .int (nI j)), (6, .int od)], [.int ((zr_oy (v 59 j) la lt wo ls kp j fe od).1)]) (zH (zb v 58 (upd (upd (upd (upd (upd (v 58) 3 ((zr_oy (v 59 j) la lt wo ls kp j fe od).2.1)) 4 ((zr_oy (v 59 j) la lt wo ls kp j fe od).2.2.1)) 5 ((zr_oy (v 59 j) la lt wo ls kp j fe od).2.2.2.1)) 6 ((zr_oy (v 59 j) la lt wo ls kp j fe od).2.2.2.2.1)) 7 ((zr_oy (v 59 j) la lt wo ls kp j fe od).2.2.2.2.2))) w t) _
        refine zk_T.br (f1 := (93, [(0, .ref 58), (1, .int fe), (3, .int od), (4, .int ev), (5, .int (nI j)), (6, .int od)], [])) (f2 := (95, [(0, .ref 58), (1, .int fe), (3, .int od), (4, .int ev), (5, .int (nI j)), (6, .int od)], [])) rfl (fun c6 => ?_) (fun c6 => ?_)
        · have c6 : ((zr_oy (v 59 j) la lt wo ls kp j fe od).1) = 0 := of_decide_eq_true c6
          refine zk_T.adv 1 (f' := (94, [(0, .ref 58), (1, .int fe), (3, .int od), (4, .int ev), (5, .int (nI j)), (6, .int od)], [.int 0])) (h' := zH (zb v 58 (upd (upd (upd (upd (upd (v 58) 3 ((zr_oy (v 59 j) la lt wo ls kp j fe od).2.1)) 4 ((zr_oy (v 59 j) la lt wo ls kp j fe od).2.2.1)) 5 ((zr_oy (v 59 j) la lt wo ls kp j fe od).2.2.2.1)) 6 ((zr_oy (v 59 j) la lt wo ls kp j fe od).2.2.2.2.1)) 7 ((zr_oy (v 59 j) la lt wo ls kp j fe od).2.2.2.2.2))) w t) rfl ?_
          simp only [zl_followG, zk_or, if_neg c2, if_neg c5, if_pos c6] at hk
          exact zk_T.rt rfl rfl hk
        · have c6 : ¬ (((zr_oy (v 59 j) la lt wo ls kp j fe od).1) = 0) := of_decide_eq_false c6
          refine zk_T.adv 2 (f' := (42, [(0, .ref 58), (1, .int fe), (3, .int od), (4, .int ev), (5, .int ((nI j) + 1))], [])) (h' := zH (zb v 58 (upd (upd (upd (upd (upd (v 58) 3 ((zr_oy (v 59 j) la lt wo ls kp j fe od).2.1)) 4 ((zr_oy (v 59 j) la lt wo ls kp j fe od).2.2.1)) 5 ((zr_oy (v 59 j) la lt wo ls kp j fe od).2.2.2.1)) 6 ((zr_oy (v 59 j) la lt wo ls kp j fe od).2.2.2.2.1)) 7 ((zr_oy (v 59 j) la lt wo ls kp j fe od).2.2.2.2.2))) w t) rfl ?_
          rw [nI_1]
          simp only [zl_followG, zk_or, if_neg c2, if_neg c5, if_neg c6] at hk
          exact hk
  · obtain ⟨la, lt, wo, ls, kp⟩ := s
    show zk_T zk_mt zk_ex Ls xs zm_159 (42, [(0, .ref 58), (1, .int fe), (3, .int od), (4, .int ev), (5, .int (nI (1 + sp)))], []) (zH (zb v 58 (upd (upd (upd (upd (upd (v 58) 3 la) 4 lt) 5 wo) 6 ls) 7 kp)) w t) q
    refine zk_T.adv 3 (f' := (48, [(0, .ref 58), (1, .int fe), (3, .int od), (4, .int ev), (5, .int (nI (1 + sp)))], [.int (v 58 1), .int (nI (1 + sp))])) (h' := zH (zb v 58 (upd (upd (upd (upd (upd (v 58) 3 la) 4 lt) 5 wo) 6 ls) 7 kp)) w t) rfl ?_
    refine zk_T.br (f1 := (101, [(0, .ref 58), (1, .int fe), (3, .int od), (4, .int ev), (5, .int (nI (1 + sp)))], [])) (f2 := (51, [(0, .ref 58), (1, .int fe), (3, .int od), (4, .int ev), (5, .int (nI (1 + sp)))], [])) rfl (fun c1 => ?_) (fun c1 => absurd (by rw [hs]; exact nI_lt (show sp < 1 + sp by omega) (by omega)) (of_decide_eq_false c1))
    exact hk
  · exact trivial
/-- BasketKeep$Walk.follow -/
theorem zs_followD (sp : Nat) (hs : v 58 1 = nI sp) (hsp : sp ≤ 60) (fe l0 od ev : Int32) : zk_Cr zk_mt zk_ex Ls xs 159 [.ref 58, .int fe, .int l0, .int od, .int ev] (zH v w t) (some (.int (zr_follow (v 59) (v 58 0) sp fe l0 od ev).1), zH (zb v 58 (upd (upd (upd (upd (upd (v 58) 3 ((zr_follow (v 59) (v 58 0) sp fe l0 od ev).2.1)) 4 ((zr_follow (v 59) (v 58 0) sp fe l0 od ev).2.2.1)) 5 ((zr_follow (v 59) (v 58 0) sp fe l0 od ev).2.2.2.1)) 6 ((zr_follow (v 59) (v 58 0) sp fe l0 od ev).2.2.2.2.1)) 7 ((zr_follow (v 59) (v 58 0) sp fe l0 od ev).2.2.2.2.2))) w t) := by
  refine zk_Cr.of (K := zm_159) rfl rfl rfl ?_
  show zk_T zk_mt zk_ex Ls xs zm_159 (0, [(0, .ref 58), (1, .int fe), (2, .int l0), (3, .int od), (4, .int ev)], []) (zH v w t) _
  refine zk_T.adv 15 (f' := (27, [(0, .ref 58), (1, .int fe), (2, .int l0), (3, .int od), (4, .int ev)], [.int l0, .ref 58])) (h' := zH (zb v 58 (upd (upd (upd (upd (v 58) 3 (-2)) 4 (-2)) 6 l0) 7 0)) w t) rfl ?_
  refine zk_T.br (f1 := (35, [(0, .ref 58), (1, .int fe), (2, .int l0), (3, .int od), (4, .int ev)], [.ref 58])) (f2 := (30, [(0, .ref 58), (1, .int fe), (2, .int l0), (3, .int od), (4, .int ev)], [.ref 58])) rfl (fun c1 => ?_) (fun c1 => ?_)
  · have c1 : l0 ≤ 0 := of_decide_eq_true c1
    refine zk_T.adv 4 (f' := (42, [(0, .ref 58), (1, .int fe), (3, .int od), (4, .int ev), (5, .int 1)], [])) (h' := zH (zb v 58 (upd (upd (upd (upd (upd (v 58) 3 (-2)) 4 (-2)) 5 0) 6 l0) 7 0)) w t) rfl ?_
    refine zl_followD sp hs hsp fe od ev ((-2), (-2), 0, l0, 0) _ ?_
    cases z2 : zfr (zl_followG (v 59) (v 58 0) fe od ev) sp 1 ((-2), (-2), 0, l0, 0) with
    | inl s =>
      show zk_T zk_mt zk_ex Ls xs zm_159 (101, [(0, .ref 58), (1, .int fe), (3, .int od), (4, .int ev), (5, .int (nI (1 + sp)))], []) (zH (zb v 58 (upd (upd (upd (upd (upd (v 58) 3 s.1) 4 s.2.1) 5 s.2.2.1) 6 s.2.2.2.1) 7 s.2.2.2.2)) w t) _
      refine zk_T.adv 1 (f' := (102, [(0, .ref 58), (1, .int fe), (3, .int od), (4, .int ev), (5, .int (nI (1 + sp)))], [.int 1])) (h' := zH (zb v 58 (upd (upd (upd (upd (upd (v 58) 3 s.1) 4 s.2.1) 5 s.2.2.1) 6 s.2.2.2.1) 7 s.2.2.2.2)) w t) rfl ?_
      exact zk_T.rt rfl rfl (by simp only [zr_follow, if_pos c1, z2] <;> rfl)
    | inr r =>
      show ((some (Value.int r.1), zH (zb v 58 (upd (upd (upd (upd (upd (v 58) 3 r.2.1) 4 r.2.2.1) 5 r.2.2.2.1) 6 r.2.2.2.2.1) 7 r.2.2.2.2.2)) w t) : Option Value × zk_H) = _
      simp only [zr_follow, if_pos c1, z2] <;> rfl
  · have c1 : ¬ (l0 ≤ 0) := of_decide_eq_false c1
    refine zk_T.adv 5 (f' := (42, [(0, .ref 58), (1, .int fe), (3, .int od), (4, .int ev), (5, .int 1)], [])) (h' := zH (zb v 58 (upd (upd (upd (upd (upd (v 58) 3 (-2)) 4 (-2)) 5 (-2)) 6 l0) 7 0)) w t) rfl ?_
    refine zl_followD sp hs hsp fe od ev ((-2), (-2), (-2), l0, 0) _ ?_
    cases z3 : zfr (zl_followG (v 59) (v 58 0) fe od ev) sp 1 ((-2), (-2), (-2), l0, 0) with
    | inl s =>
      show zk_T zk_mt zk_ex Ls xs zm_159 (101, [(0, .ref 58), (1, .int fe), (3, .int od), (4, .int ev), (5, .int (nI (1 + sp)))], []) (zH (zb v 58 (upd (upd (upd (upd (upd (v 58) 3 s.1) 4 s.2.1) 5 s.2.2.1) 6 s.2.2.2.1) 7 s.2.2.2.2)) w t) _
      refine zk_T.adv 1 (f' := (102, [(0, .ref 58), (1, .int fe), (3, .int od), (4, .int ev), (5, .int (nI (1 + sp)))], [.int 1])) (h' := zH (zb v 58 (upd (upd (upd (upd (upd (v 58) 3 s.1) 4 s.2.1) 5 s.2.2.1) 6 s.2.2.2.1) 7 s.2.2.2.2)) w t) rfl ?_
      exact zk_T.rt rfl rfl (by simp only [zr_follow, if_neg c1, z3] <;> rfl)
    | inr r =>
      show ((some (Value.int r.1), zH (zb v 58 (upd (upd (upd (upd (upd (v 58) 3 r.2.1) 4 r.2.2.1) 5 r.2.2.2.1) 6 r.2.2.2.2.1) 7 r.2.2.2.2.2)) w t) : Option Value × zk_H) = _
      simp only [zr_follow, if_neg c1, z3] <;> rfl
/-- BasketKeep$Walk.followBare -/
theorem zs_followBareD (sp : Nat) (hs : v 58 1 = nI sp) (hsp : sp ≤ 60) (fe : Int32) : zk_Cr zk_mt zk_ex Ls xs 206 [.ref 58, .int fe] (zH v w t) (some (.int ((zr_follow (v 59) (v 58 0) sp fe 0 0 0).1)), zH (zb v 58 (upd (upd (upd (upd (upd (v 58) 3 ((zr_follow (v 59) (v 58 0) sp fe 0 0 0).2.1)) 4 ((zr_follow (v 59) (v 58 0) sp fe 0 0 0).2.2.1)) 5 ((zr_follow (v 59) (v 58 0) sp fe 0 0 0).2.2.2.1)) 6 ((zr_follow (v 59) (v 58 0) sp fe 0 0 0).2.2.2.2.1)) 7 ((zr_follow (v 59) (v 58 0) sp fe 0 0 0).2.2.2.2.2))) w t) := by
  refine zk_Cr.of (K := zm_206) rfl rfl rfl ?_
  show zk_T zk_mt zk_ex Ls xs zm_206 (0, [(0, .ref 58), (1, .int fe)], []) (zH v w t) _
  refine zk_T.adv 5 (f' := (5, [(0, .ref 58), (1, .int fe)], [.int 0, .int 0, .int 0, .int fe, .ref 58])) (h' := zH v w t) rfl ?_
  refine zk_T.cl (v := some (.int ((zr_follow (v 59) (v 58 0) sp fe 0 0 0).1))) (h' := zH (zb v 58 (upd (upd (upd (upd (upd (v 58) 3 ((zr_follow (v 59) (v 58 0) sp fe 0 0 0).2.1)) 4 ((zr_follow (v 59) (v 58 0) sp fe 0 0 0).2.2.1)) 5 ((zr_follow (v 59) (v 58 0) sp fe 0 0 0).2.2.2.1)) 6 ((zr_follow (v 59) (v 58 0) sp fe 0 0 0).2.2.2.2.1)) 7 ((zr_follow (v 59) (v 58 0) sp fe 0 0 0).2.2.2.2.2))) w t) rfl (zs_followD (v := v) sp hs hsp fe 0 0 0) ?_
  show zk_T zk_mt zk_ex Ls xs zm_206 (8, [(0, .ref 58), (1, .int fe)], [.int ((zr_follow (v 59) (v 58 0) sp fe 0 0 0).1)]) (zH (zb v 58 (upd (upd (upd (upd (upd (v 58) 3 ((zr_follow (v 59) (v 58 0) sp fe 0 0 0).2.1)) 4 ((zr_follow (v 59) (v 58 0) sp fe 0 0 0).2.2.1)) 5 ((zr_follow (v 59) (v 58 0) sp fe 0 0 0).2.2.2.1)) 6 ((zr_follow (v 59) (v 58 0) sp fe 0 0 0).2.2.2.2.1)) 7 ((zr_follow (v 59) (v 58 0) sp fe 0 0 0).2.2.2.2.2))) w t) _
  exact zk_T.rt rfl (decide_eq_true (zr_follow01 _ _ _ _ _ _ _)) (by rfl)
/-- BasketKeep$Walk.followIn -/
theorem zs_followInD_start (sp : Nat) (hs : v 58 1 = nI sp) (hsp : sp ≤ 60) (a e : Nat) (ha : a < 4) (he : e < 5) (hke : v 23 e = 0 ∨ v 23 e = 1 ∨ v 23 e = 2) (th sl : Int32) : zk_Cr zk_mt zk_ex Ls xs 207 [.ref 58, .ref 20, .ref 60, .int (nI a), .int (nI e), .int th, .int sl] (zH v w t) (some (.int ((zr_follow (v 59) (v 58 0) sp (v 27 a) (v 63 e) ((zr_heldOff (v 23 e) th 1) &&& (sl ^^^ (-1))) ((zr_heldOff (v 23 e) th 2) &&& (sl ^^^ (-1)))).1)), zH (zb v 58 (upd (upd (upd (upd (upd (v 58) 3 ((zr_follow (v 59) (v 58 0) sp (v 27 a) (v 63 e) ((zr_heldOff (v 23 e) th 1) &&& (sl ^^^ (-1))) ((zr_heldOff (v 23 e) th 2) &&& (sl ^^^ (-1)))).2.1)) 4 ((zr_follow (v 59) (v 58 0) sp (v 27 a) (v 63 e) ((zr_heldOff (v 23 e) th 1) &&& (sl ^^^ (-1))) ((zr_heldOff (v 23 e) th 2) &&& (sl ^^^ (-1)))).2.2.1)) 5 ((zr_follow (v 59) (v 58 0) sp (v 27 a) (v 63 e) ((zr_heldOff (v 23 e) th 1) &&& (sl ^^^ (-1))) ((zr_heldOff (v 23 e) th 2) &&& (sl ^^^ (-1)))).2.2.2.1)) 6 ((zr_follow (v 59) (v 58 0) sp (v 27 a) (v 63 e) ((zr_heldOff (v 23 e) th 1) &&& (sl ^^^ (-1))) ((zr_heldOff (v 23 e) th 2) &&& (sl ^^^ (-1)))).2.2.2.2.1)) 7 ((zr_follow (v 59) (v 58 0) sp (v 27 a) (v 63 e) ((zr_heldOff (v 23 e) th 1) &&& (sl ^^^ (-1))) ((zr_heldOff (v 23 e) th 2) &&& (sl ^^^ (-1)))).2.2.2.2.2))) w t) := by
  refine zk_Cr.of (K := zm_207) rfl rfl rfl ?_
  show zk_T zk_mt zk_ex Ls xs zm_207 (0, [(0, .ref 58), (1, .ref 20), (2, .ref 60), (3, .int (nI a)), (4, .int (nI e)), (5, .int th), (6, .int sl)], []) (zH v w t) _
  refine zk_T.adv 4 (f' := (6, [(0, .ref 58), (1, .ref 20), (2, .ref 60), (3, .int (nI a)), (4, .int (nI e)), (5, .int th), (6, .int sl)], [.int 1, .int th, .int (nI e), .ref 20])) (h' := zH v w t) rfl ?_
  refine zk_T.cl (v := some (.int (zr_heldOff (v 23 e) th 1))) (h' := zH v w t) rfl (zs_heldOff (v := v) e (by omega) hke th 1) ?_
  show zk_T zk_mt zk_ex Ls xs zm_207 (9, [(0, .ref 58), (1, .ref 20), (2, .ref 60), (3, .int (nI a)), (4, .int (nI e)), (5, .int th), (6, .int sl)], [.int (zr_heldOff (v 23 e) th 1)]) (zH v w t) _
  refine zk_T.adv 9 (f' := (22, [(0, .ref 58), (1, .ref 20), (2, .ref 60), (3, .int (nI a)), (4, .int (nI e)), (5, .int th), (6, .int sl), (7, .int ((zr_heldOff (v 23 e) th 1) &&& (sl ^^^ (-1))))], [.int 2, .int th, .int (nI e), .ref 20])) (h' := zH v w t) rfl ?_
  refine zk_T.cl (v := some (.int (zr_heldOff (v 23 e) th 2))) (h' := zH v w t) rfl (zs_heldOff (v := v) e (by omega) hke th 2) ?_
  show zk_T zk_mt zk_ex Ls xs zm_207 (25, [(0, .ref 58), (1, .ref 20), (2, .ref 60), (3, .int (nI a)), (4, .int (nI e)), (5, .int th), (6, .int sl), (7, .int ((zr_heldOff (v 23 e) th 1) &&& (sl ^^^ (-1))))], [.int (zr_heldOff (v 23 e) th 2)]) (zH v w t) _
  refine zk_T.adv 9 (f' := (38, [(0, .ref 58), (1, .ref 20), (2, .ref 60), (3, .int (nI a)), (4, .int (nI e)), (5, .int th), (6, .int sl), (7, .int ((zr_heldOff (v 23 e) th 1) &&& (sl ^^^ (-1)))), (8, .int ((zr_heldOff (v 23 e) th 2) &&& (sl ^^^ (-1))))], [.int (nI a), .ref 27, .ref 58])) (h' := zH v w t) rfl ?_
  refine zk_T.ob (f' := (39, [(0, .ref 58), (1, .ref 20), (2, .ref 60), (3, .int (nI a)), (4, .int (nI e)), (5, .int th), (6, .int sl), (7, .int ((zr_heldOff (v 23 e) th 1) &&& (sl ^^^ (-1)))), (8, .int ((zr_heldOff (v 23 e) th 2) &&& (sl ^^^ (-1))))], [.int (v 27 (nI a).toNatClampNeg), .ref 58])) (h' := zH v w t) rfl (by first | exact zk_inN (by omega) (by decide) | decide) ?_
  rw [nI_clamp (show a < 2 ^ 31 by omega)]
  refine zk_T.adv 3 (f' := (45, [(0, .ref 58), (1, .ref 20), (2, .ref 60), (3, .int (nI a)), (4, .int (nI e)), (5, .int th), (6, .int sl), (7, .int ((zr_heldOff (v 23 e) th 1) &&& (sl ^^^ (-1)))), (8, .int ((zr_heldOff (v 23 e) th 2) &&& (sl ^^^ (-1))))], [.int (nI e), .ref 63, .int (v 27 a), .ref 58])) (h' := zH v w t) rfl ?_
  refine zk_T.ob (f' := (46, [(0, .ref 58), (1, .ref 20), (2, .ref 60), (3, .int (nI a)), (4, .int (nI e)), (5, .int th), (6, .int sl), (7, .int ((zr_heldOff (v 23 e) th 1) &&& (sl ^^^ (-1)))), (8, .int ((zr_heldOff (v 23 e) th 2) &&& (sl ^^^ (-1))))], [.int (v 63 (nI e).toNatClampNeg), .int (v 27 a), .ref 58])) (h' := zH v w t) rfl (by first | exact zk_inN (by omega) (by decide) | decide) ?_
  rw [nI_clamp (show e < 2 ^ 31 by omega)]
  refine zk_T.adv 2 (f' := (50, [(0, .ref 58), (1, .ref 20), (2, .ref 60), (3, .int (nI a)), (4, .int (nI e)), (5, .int th), (6, .int sl), (7, .int ((zr_heldOff (v 23 e) th 1) &&& (sl ^^^ (-1)))), (8, .int ((zr_heldOff (v 23 e) th 2) &&& (sl ^^^ (-1))))], [.int ((zr_heldOff (v 23 e) th 2) &&& (sl ^^^ (-1))), .int ((zr_heldOff (v 23 e) th 1) &&& (sl ^^^ (-1))), .int (v 63 e), .int (v 27 a), .ref 58])) (h' := zH v w t) rfl ?_
  refine zk_T.cl (v := some (.int ((zr_follow (v 59) (v 58 0) sp (v 27 a) (v 63 e) ((zr_heldOff (v 23 e) th 1) &&& (sl ^^^ (-1))) ((zr_heldOff (v 23 e) th 2) &&& (sl ^^^ (-1)))).1))) (h' := zH (zb v 58 (upd (upd (upd (upd (upd (v 58) 3 ((zr_follow (v 59) (v 58 0) sp (v 27 a) (v 63 e) ((zr_heldOff (v 23 e) th 1) &&& (sl ^^^ (-1))) ((zr_heldOff (v 23 e) th 2) &&& (sl ^^^ (-1)))).2.1)) 4 ((zr_follow (v 59) (v 58 0) sp (v 27 a) (v 63 e) ((zr_heldOff (v 23 e) th 1) &&& (sl ^^^ (-1))) ((zr_heldOff (v 23 e) th 2) &&& (sl ^^^ (-1)))).2.2.1)) 5 ((zr_follow (v 59) (v 58 0) sp (v 27 a) (v 63 e) ((zr_heldOff (v 23 e) th 1) &&& (sl ^^^ (-1))) ((zr_heldOff (v 23 e) th 2) &&& (sl ^^^ (-1)))).2.2.2.1)) 6 ((zr_follow (v 59) (v 58 0) sp (v 27 a) (v 63 e) ((zr_heldOff (v 23 e) th 1) &&& (sl ^^^ (-1))) ((zr_heldOff (v 23 e) th 2) &&& (sl ^^^ (-1)))).2.2.2.2.1)) 7 ((zr_follow (v 59) (v 58 0) sp (v 27 a) (v 63 e) ((zr_heldOff (v 23 e) th 1) &&& (sl ^^^ (-1))) ((zr_heldOff (v 23 e) th 2) &&& (sl ^^^ (-1)))).2.2.2.2.2))) w t) rfl (zs_followD (v := v) sp hs hsp (v 27 a) (v 63 e) ((zr_heldOff (v 23 e) th 1) &&& (sl ^^^ (-1))) ((zr_heldOff (v 23 e) th 2) &&& (sl ^^^ (-1)))) ?_
  show zk_T zk_mt zk_ex Ls xs zm_207 (53, [(0, .ref 58), (1, .ref 20), (2, .ref 60), (3, .int (nI a)), (4, .int (nI e)), (5, .int th), (6, .int sl), (7, .int ((zr_heldOff (v 23 e) th 1) &&& (sl ^^^ (-1)))), (8, .int ((zr_heldOff (v 23 e) th 2) &&& (sl ^^^ (-1))))], [.int ((zr_follow (v 59) (v 58 0) sp (v 27 a) (v 63 e) ((zr_heldOff (v 23 e) th 1) &&& (sl ^^^ (-1))) ((zr_heldOff (v 23 e) th 2) &&& (sl ^^^ (-1)))).1)]) (zH (zb v 58 (upd (upd (upd (upd (upd (v 58) 3 ((zr_follow (v 59) (v 58 0) sp (v 27 a) (v 63 e) ((zr_heldOff (v 23 e) th 1) &&& (sl ^^^ (-1))) ((zr_heldOff (v 23 e) th 2) &&& (sl ^^^ (-1)))).2.1)) 4 ((zr_follow (v 59) (v 58 0) sp (v 27 a) (v 63 e) ((zr_heldOff (v 23 e) th 1) &&& (sl ^^^ (-1))) ((zr_heldOff (v 23 e) th 2) &&& (sl ^^^ (-1)))).2.2.1)) 5 ((zr_follow (v 59) (v 58 0) sp (v 27 a) (v 63 e) ((zr_heldOff (v 23 e) th 1) &&& (sl ^^^ (-1))) ((zr_heldOff (v 23 e) th 2) &&& (sl ^^^ (-1)))).2.2.2.1)) 6 ((zr_follow (v 59) (v 58 0) sp (v 27 a) (v 63 e) ((zr_heldOff (v 23 e) th 1) &&& (sl ^^^ (-1))) ((zr_heldOff (v 23 e) th 2) &&& (sl ^^^ (-1)))).2.2.2.2.1)) 7 ((zr_follow (v 59) (v 58 0) sp (v 27 a) (v 63 e) ((zr_heldOff (v 23 e) th 1) &&& (sl ^^^ (-1))) ((zr_heldOff (v 23 e) th 2) &&& (sl ^^^ (-1)))).2.2.2.2.2))) w t) _
  exact zk_T.rt rfl (decide_eq_true (zr_follow01 _ _ _ _ _ _ _)) (by rfl)
theorem zl_aimH (D : Nat) (hD : v 20 1 = nI D) (h8 : D ≤ 8) (yg : Int32) (sp : Nat) (hsp : sp ≤ 60) : ∀ (s : (Nat → Int32)) (q : Option Value × zk_H), zk_T zk_mt zk_ex Ls xs zm_98 ((fun (s : (Nat → Int32)) => ((54, [(0, .ref 65), (1, .ref 20), (4, .int (nI (1 + sp)))], []) : zk_F)) (zf (zl_aimG D (v 21) (v 22) yg) sp 1 s)) ((fun (s : (Nat → Int32)) => zH (zb (zb v 65 (upd (upd (v 65) 0 yg) 1 (nI sp))) 66 s) w t) (zf (zl_aimG D (v 21) (v 22) yg) sp 1 s)) q → zk_T zk_mt zk_ex Ls xs zm_98 (21, [(0, .ref 65), (1, .ref 20), (4, .int (nI 1))], []) (zH (zb (zb v 65 (upd (upd (v 65) 0 yg) 1 (nI sp))) 66 s) w t) q := by
  intro s q hk
  refine zk_forK (M := zm_98) (fun j (s : (Nat → Int32)) => (21, [(0, .ref 65), (1, .ref 20), (4, .int (nI j))], [])) (fun _ (s : (Nat → Int32)) => zH (zb (zb v 65 (upd (upd (v 65) 0 yg) 1 (nI sp))) 66 s) w t) (zl_aimG D (v 21) (v 22) yg) (fun _ _ => True) (fun (s : (Nat → Int32)) => (54, [(0, .ref 65), (1, .ref 20), (4, .int (nI (1 + sp)))], [])) (fun (s : (Nat → Int32)) => zH (zb (zb v 65 (upd (upd (v 65) 0 yg) 1 (nI sp))) 66 s) w t) (sp) 1 s (fun _ _ _ _ _ => trivial) (fun j s hj1 hj2 hp q hk => ?_) (fun s hp q hk => ?_) ?_ q hk
  · have hz := True.intro
    obtain ⟨sk, rfl⟩ : ∃ z, z = s := ⟨_, rfl⟩
    show zk_T zk_mt zk_ex Ls xs zm_98 (21, [(0, .ref 65), (1, .ref 20), (4, .int (nI j))], []) (zH (zb (zb v 65 (upd (upd (v 65) 0 yg) 1 (nI sp))) 66 sk) w t) q
    refine zk_T.adv 3 (f' := (27, [(0, .ref 65), (1, .ref 20), (4, .int (nI j))], [.int (nI sp), .int (nI j)])) (h' := zH (zb (zb v 65 (upd (upd (v 65) 0 yg) 1 (nI sp))) 66 sk) w t) rfl ?_
    refine zk_T.br (f1 := (54, [(0, .ref 65), (1, .ref 20), (4, .int (nI j))], [])) (f2 := (30, [(0, .ref 65), (1, .ref 20), (4, .int (nI j))], [])) rfl (fun c1 => absurd (of_decide_eq_true c1) (nI_nlt (show j ≤ sp by omega) (by omega))) (fun c1 => ?_)
    refine zk_T.adv 8 (f' := (44, [(0, .ref 65), (1, .ref 20), (4, .int (nI j))], [.int (yg + (nI j)), .ref 20, .int (nI j), .ref 66])) (h' := zH (zb (zb v 65 (upd (upd (v 65) 0 yg) 1 (nI sp))) 66 sk) w t) rfl ?_
    refine zk_T.cl (v := some (.int (zr_strikingIn D (v 21) (v 22) (yg + (nI j))))) (h' := zH (zb (zb v 65 (upd (upd (v 65) 0 yg) 1 (nI sp))) 66 sk) w t) rfl (zs_strikingIn (v := (zb (zb v 65 (upd (upd (v 65) 0 yg) 1 (nI sp))) 66 sk)) D hD h8 (yg + (nI j))) ?_
    show zk_T zk_mt zk_ex Ls xs zm_98 (47, [(0, .ref 65), (1, .ref 20), (4, .int (nI j))], [.int (zr_strikingIn D (v 21) (v 22) (yg + (nI j))), .int (nI j), .ref 66]) (zH (zb (zb v 65 (upd (upd (v 65) 0 yg) 1 (nI sp))) 66 sk) w t) _
    refine zk_T.ob (f' := (48, [(0, .ref 65), (1, .ref 20), (4, .int (nI j))], [])) (h' := zH (zb (zb v 65 (upd (upd (v 65) 0 yg) 1 (nI sp))) 66 (upd sk (nI j).toNatClampNeg (zr_strikingIn D (v 21) (v 22) (yg + (nI j))))) w t) rfl (by first | exact zk_inN (by omega) (by decide) | decide) ?_
    rw [nI_clamp (show j < 2 ^ 31 by omega)]
    refine zk_T.adv 2 (f' := (21, [(0, .ref 65), (1, .ref 20), (4, .int ((nI j) + 1))], [])) (h' := zH (zb (zb v 65 (upd (upd (v 65) 0 yg) 1 (nI sp))) 66 (upd sk j (zr_strikingIn D (v 21) (v 22) (yg + (nI j))))) w t) rfl ?_
    rw [nI_1]
    simp only [zl_aimG] at hk
    exact hk
  · have hz := True.intro
    obtain ⟨sk, rfl⟩ : ∃ z, z = s := ⟨_, rfl⟩
    show zk_T zk_mt zk_ex Ls xs zm_98 (21, [(0, .ref 65), (1, .ref 20), (4, .int (nI (1 + sp)))], []) (zH (zb (zb v 65 (upd (upd (v 65) 0 yg) 1 (nI sp))) 66 sk) w t) q
    refine zk_T.adv 3 (f' := (27, [(0, .ref 65), (1, .ref 20), (4, .int (nI (1 + sp)))], [.int (nI sp), .int (nI (1 + sp))])) (h' := zH (zb (zb v 65 (upd (upd (v 65) 0 yg) 1 (nI sp))) 66 sk) w t) rfl ?_
    refine zk_T.br (f1 := (54, [(0, .ref 65), (1, .ref 20), (4, .int (nI (1 + sp)))], [])) (f2 := (30, [(0, .ref 65), (1, .ref 20), (4, .int (nI (1 + sp)))], [])) rfl (fun c1 => ?_) (fun c1 => absurd (nI_lt (show sp < 1 + sp by omega) (by omega)) (of_decide_eq_false c1))
    exact hk
  · exact trivial
/-- BasketKeep$Walk.aim -/
theorem zs_aimH_now (D : Nat) (hD : v 20 1 = nI D) (h8 : D ≤ 8) (sp : Nat) (hsp : sp ≤ 60) : zk_Cr zk_mt zk_ex Ls xs 98 [.ref 65, .ref 20, .ref 32, .int (nI sp)] (zH v w t) (none, zH (zb (zb v 65 (upd (upd (v 65) 0 (v 32 0)) 1 (nI sp))) 66 (zf (zl_aimG D (v 21) (v 22) (v 32 0)) sp 1 (v 66))) w t) := by
  refine zk_Cr.of (K := zm_98) rfl rfl rfl ?_
  show zk_T zk_mt zk_ex Ls xs zm_98 (0, [(0, .ref 65), (1, .ref 20), (2, .ref 32), (3, .int (nI sp))], []) (zH v w t) _
  refine zk_T.adv 7 (f' := (12, [(0, .ref 65), (1, .ref 20), (2, .ref 32), (3, .int (nI sp))], [.int 60, .int (nI sp), .ref 65])) (h' := zH (zb v 65 (upd (v 65) 0 (v 32 0))) w t) rfl ?_
  refine zk_T.cl (v := some (.int (nI sp))) (h' := zH (zb v 65 (upd (v 65) 0 (v 32 0))) w t) rfl (zs_min60 sp hsp) ?_
  show zk_T zk_mt zk_ex Ls xs zm_98 (15, [(0, .ref 65), (1, .ref 20), (2, .ref 32), (3, .int (nI sp))], [.int (nI sp), .ref 65]) (zH (zb v 65 (upd (v 65) 0 (v 32 0))) w t) _
  refine zk_T.adv 3 (f' := (21, [(0, .ref 65), (1, .ref 20), (4, .int 1)], [])) (h' := zH (zb v 65 (upd (upd (v 65) 0 (v 32 0)) 1 (nI sp))) w t) rfl ?_
  refine zl_aimH D hD h8 (v 32 0) sp hsp (v 66) _ ?_
  show zk_T zk_mt zk_ex Ls xs zm_98 (54, [(0, .ref 65), (1, .ref 20), (4, .int (nI (1 + sp)))], []) (zH (zb (zb v 65 (upd (upd (v 65) 0 (v 32 0)) 1 (nI sp))) 66 (zf (zl_aimG D (v 21) (v 22) (v 32 0)) sp 1 (v 66))) w t) _
  exact zk_T.rt rfl rfl (by rfl)
theorem zl_followH (sp : Nat) (hs : v 65 1 = nI sp) (hsp : sp ≤ 60) (fe od ev : Int32) : ∀ (s : Int32 × Int32 × Int32 × Int32 × Int32) (q : Option Value × zk_H), zk_or (fun (s : Int32 × Int32 × Int32 × Int32 × Int32) => zk_T zk_mt zk_ex Ls xs zm_159 (101, [(0, .ref 65), (1, .int fe), (3, .int od), (4, .int ev), (5, .int (nI (1 + sp)))], []) (zH (zb v 65 (upd (upd (upd (upd (upd (v 65) 3 s.1) 4 s.2.1) 5 s.2.2.1) 6 s.2.2.2.1) 7 s.2.2.2.2)) w t) q) (fun (r : Int32 × Int32 × Int32 × Int32 × Int32 × Int32) => (some (.int r.1), zH (zb v 65 (upd (upd (upd (upd (upd (v 65) 3 r.2.1) 4 r.2.2.1) 5 r.2.2.2.1) 6 r.2.2.2.2.1) 7 r.2.2.2.2.2)) w t) = q) (zfr (zl_followG (v 66) (v 65 0) fe od ev) sp 1 s) → zk_T zk_mt zk_ex Ls xs zm_159 (42, [(0, .ref 65), (1, .int fe), (3, .int od), (4, .int ev), (5, .int (nI 1))], []) (zH (zb v 65 (upd (upd (upd (upd (upd (v 65) 3 s.1) 4 s.2.1) 5 s.2.2.1) 6 s.2.2.2.1) 7 s.2.2.2.2)) w t) q := by
  intro s q hk
  refine zk_forX (M := zm_159) (fun j (s : Int32 × Int32 × Int32 × Int32 × Int32) => (42, [(0, .ref 65), (1, .int fe), (3, .int od), (4, .int ev), (5, .int (nI j))], [])) (fun _ (s : Int32 × Int32 × Int32 × Int32 × Int32) => zH (zb v 65 (upd (upd (upd (upd (upd (v 65) 3 s.1) 4 s.2.1) 5 s.2.2.1) 6 s.2.2.2.1) 7 s.2.2.2.2)) w t) (zl_followG (v 66) (v 65 0) fe od ev) (fun _ _ => True) (fun (s : Int32 × Int32 × Int32 × Int32 × Int32) => (101, [(0, .ref 65), (1, .int fe), (3, .int od), (4, .int ev), (5, .int (nI (1 + sp)))], [])) (fun (s : Int32 × Int32 × Int32 × Int32 × Int32) => zH (zb v 65 (upd (upd (upd (upd (upd (v 65) 3 s.1) 4 s.2.1) 5 s.2.2.1) 6 s.2.2.2.1) 7 s.2.2.2.2)) w t) (fun r q => (some (.int r.1), zH (zb v 65 (upd (upd (upd (upd (upd (v 65) 3 r.2.1) 4 r.2.2.1) 5 r.2.2.2.1) 6 r.2.2.2.2.1) 7 r.2.2.2.2.2)) w t) = q) (sp) 1 s (fun _ _ _ _ _ _ _ => trivial) (fun j s hj1 hj2 hp q hk => ?_) (fun s hp q hk => ?_) ?_ q hk
  · obtain ⟨la, lt, wo, ls, kp⟩ := s
    show zk_T zk_mt zk_ex Ls xs zm_159 (42, [(0, .ref 65), (1, .int fe), (3, .int od), (4, .int ev), (5, .int (nI j))], []) (zH (zb v 65 (upd (upd (upd (upd (upd (v 65) 3 la) 4 lt) 5 wo) 6 ls) 7 kp)) w t) q
    refine zk_T.adv 3 (f' := (48, [(0, .ref 65), (1, .int fe), (3, .int od), (4, .int ev), (5, .int (nI j))], [.int (v 65 1), .int (nI j)])) (h' := zH (zb v 65 (upd (upd (upd (upd (upd (v 65) 3 la) 4 lt) 5 wo) 6 ls) 7 kp)) w t) rfl ?_
    refine zk_T.br (f1 := (101, [(0, .ref 65), (1, .int fe), (3, .int od), (4, .int ev), (5, .int (nI j))], [])) (f2 := (51, [(0, .ref 65), (1, .int fe), (3, .int od), (4, .int ev), (5, .int (nI j))], [])) rfl (fun c1 => absurd (of_decide_eq_true c1) (by rw [hs]; exact nI_nlt (show j ≤ sp by omega) (by omega))) (fun c1 => ?_)
    refine zk_T.adv 5 (f' := (59, [(0, .ref 65), (1, .int fe), (3, .int od), (4, .int ev), (5, .int (nI j))], [.int 2, .int ((v 65 0) + (nI j))])) (h' := zH (zb v 65 (upd (upd (upd (upd (upd (v 65) 3 la) 4 lt) 5 wo) 6 ls) 7 kp)) w t) rfl ?_
    refine zk_T.ob (f' := (60, [(0, .ref 65), (1, .int fe), (3, .int od), (4, .int ev), (5, .int (nI j))], [.int (((v 65 0) + (nI j)) - ((v 65 0) + (nI j)) / 2 * 2)])) (h' := zH (zb v 65 (upd (upd (upd (upd (upd (v 65) 3 la) 4 lt) 5 wo) 6 ls) 7 kp)) w t) rfl (by decide) ?_
    refine zk_T.br (f1 := (63, [(0, .ref 65), (1, .int fe), (3, .int od), (4, .int ev), (5, .int (nI j))], [])) (f2 := (68, [(0, .ref 65), (1, .int fe), (3, .int od), (4, .int ev), (5, .int (nI j))], [])) rfl (fun c2 => ?_) (fun c2 => ?_)
    · have c2 : (((v 65 0) + (nI j)) - ((v 65 0) + (nI j)) / 2 * 2) = 0 := of_decide_eq_true c2
      refine zk_T.adv 6 (f' := (77, [(0, .ref 65), (1, .int fe), (3, .int od), (4, .int ev), (5, .int (nI j)), (6, .int ev)], [.int (nI j), .ref 66])) (h' := zH (zb v 65 (upd (upd (upd (upd (upd (v 65) 3 la) 4 lt) 5 wo) 6 ls) 7 kp)) w t) rfl ?_
      refine zk_T.ob (f' := (78, [(0, .ref 65), (1, .int fe), (3, .int od), (4, .int ev), (5, .int (nI j)), (6, .int ev)], [.int (v 66 (nI j).toNatClampNeg)])) (h' := zH (zb v 65 (upd (upd (upd (upd (upd (v 65) 3 la) 4 lt) 5 wo) 6 ls) 7 kp)) w t) rfl (by first | exact zk_inN (by omega) (by decide) | decide) ?_
      rw [nI_clamp (show j < 2 ^ 31 by omega)]
      refine zk_T.br (f1 := (95, [(0, .ref 65), (1, .int fe), (3, .int od), (4, .int ev), (5, .int (nI j)), (6, .int ev)], [])) (f2 := (81, [(0, .ref 65), (1, .int fe), (3, .int od), (4, .int ev), (5, .int (nI j)), (6, .int ev)], [])) rfl (fun c3 => ?_) (fun c3 => ?_)
      · have c3 : (v 66 j) = 0 := of_decide_eq_true c3
        refine zk_T.adv 2 (f' := (42, [(0, .ref 65), (1, .int fe), (3, .int od), (4, .int ev), (5, .int ((nI j) + 1))], [])) (h' := zH (zb v 65 (upd (upd (upd (upd (upd (v 65) 3 la) 4 lt) 5 wo) 6 ls) 7 kp)) w t) rfl ?_
        rw [nI_1]
        simp only [zl_followG, zk_or, if_pos c2, if_pos c3] at hk
        exact hk
      · have c3 : ¬ ((v 66 j) = 0) := of_decide_eq_false c3
        refine zk_T.adv 4 (f' := (87, [(0, .ref 65), (1, .int fe), (3, .int od), (4, .int ev), (5, .int (nI j)), (6, .int ev)], [.int ev, .int fe, .int (nI j), .ref 65])) (h' := zH (zb v 65 (upd (upd (upd (upd (upd (v 65) 3 la) 4 lt) 5 wo) 6 ls) 7 kp)) w t) rfl ?_
        refine zk_T.cl (v := some (.int ((zr_oy (v 66 j) la lt wo ls kp j fe ev).1))) (h' := zH (zb v 65 (upd (upd (upd (upd (upd (v 65) 3 ((zr_oy (v 66 j) la lt wo ls kp j fe ev).2.1)) 4 ((zr_oy (v 66 j) la lt wo ls kp j fe ev).2.2.1)) 5 ((zr_oy (v 66 j) la lt wo ls kp j fe ev).2.2.2.1)) 6 ((zr_oy (v 66 j) la lt wo ls kp j fe ev).2.2.2.2.1)) 7 ((zr_oy (v 66 j) la lt wo ls kp j fe ev).2.2.2.2.2))) w t) rfl (zs_oyH j (by omega) fe ev) ?_
        show zk_T zk_mt zk_ex Ls xs zm_159 (90, [(0, .ref 65), (1, .int fe), (3, .int od), (4, .int ev), (5, .int (nI j)), (6, .int ev)], [.int ((zr_oy (v 66 j) la lt wo ls kp j fe ev).1)]) (zH (zb v 65 (upd (upd (upd (upd (upd (v 65) 3 ((zr_oy (v 66 j) la lt wo ls kp j fe ev).2.1)) 4 ((zr_oy (v 66 j) la lt wo ls kp j fe ev).2.2.1)) 5 ((zr_oy (v 66 j) la lt wo ls kp j fe ev).2.2.2.1)) 6 ((zr_oy (v 66 j) la lt wo ls kp j fe ev).2.2.2.2.1)) 7 ((zr_oy (v 66 j) la lt wo ls kp j fe ev).2.2.2.2.2))) w t) _
        refine zk_T.br (f1 := (93, [(0, .ref 65), (1, .int fe), (3, .int od), (4, .int ev), (5, .int (nI j)), (6, .int ev)], [])) (f2 := (95, [(0, .ref 65), (1, .int fe), (3, .int od), (4, .int ev), (5, .int (nI j)), (6, .int ev)], [])) rfl (fun c4 => ?_) (fun c4 => ?_)
        · have c4 : ((zr_oy (v 66 j) la lt wo ls kp j fe ev).1) = 0 := of_decide_eq_true c4
          refine zk_T.adv 1 (f' := (94, [(0, .ref 65), (1, .int fe), (3, .int od), (4, .int ev), (5, .int (nI j)), (6, .int ev)], [.int 0])) (h' := zH (zb v 65 (upd (upd (upd (upd (upd (v 65) 3 ((zr_oy (v 66 j) la lt wo ls kp j fe ev).2.1)) 4 ((zr_oy (v 66 j) la lt wo ls kp j fe ev).2.2.1)) 5 ((zr_oy (v 66 j) la lt wo ls kp j fe ev).2.2.2.1)) 6 ((zr_oy (v 66 j) la lt wo ls kp j fe ev).2.2.2.2.1)) 7 ((zr_oy (v 66 j) la lt wo ls kp j fe ev).2.2.2.2.2))) w t) rfl ?_
          simp only [zl_followG, zk_or, if_pos c2, if_neg c3, if_pos c4] at hk
          exact zk_T.rt rfl rfl hk
        · have c4 : ¬ (((zr_oy (v 66 j) la lt wo ls kp j fe ev).1) = 0) := of_decide_eq_false c4
          refine zk_T.adv 2 (f' := (42, [(0, .ref 65), (1, .int fe), (3, .int od), (4, .int ev), (5, .int ((nI j) + 1))], [])) (h' := zH (zb v 65 (upd (upd (upd (upd (upd (v 65) 3 ((zr_oy (v 66 j) la lt wo ls kp j fe ev).2.1)) 4 ((zr_oy (v 66 j) la lt wo ls kp j fe ev).2.2.1)) 5 ((zr_oy (v 66 j) la lt wo ls kp j fe ev).2.2.2.1)) 6 ((zr_oy (v 66 j) la lt wo ls kp j fe ev).2.2.2.2.1)) 7 ((zr_oy (v 66 j) la lt wo ls kp j fe ev).2.2.2.2.2))) w t) rfl ?_
          rw [nI_1]
          simp only [zl_followG, zk_or, if_pos c2, if_neg c3, if_neg c4] at hk
          exact hk
    · have c2 : ¬ ((((v 65 0) + (nI j)) - ((v 65 0) + (nI j)) / 2 * 2) = 0) := of_decide_eq_false c2
      refine zk_T.adv 5 (f' := (77, [(0, .ref 65), (1, .int fe), (3, .int od), (4, .int ev), (5, .int (nI j)), (6, .int od)], [.int (nI j), .ref 66])) (h' := zH (zb v 65 (upd (upd (upd (upd (upd (v 65) 3 la) 4 lt) 5 wo) 6 ls) 7 kp)) w t) rfl ?_
      refine zk_T.ob (f' := (78, [(0, .ref 65), (1, .int fe), (3, .int od), (4, .int ev), (5, .int (nI j)), (6, .int od)], [.int (v 66 (nI j).toNatClampNeg)])) (h' := zH (zb v 65 (upd (upd (upd (upd (upd (v 65) 3 la) 4 lt) 5 wo) 6 ls) 7 kp)) w t) rfl (by first | exact zk_inN (by omega) (by decide) | decide) ?_
      rw [nI_clamp (show j < 2 ^ 31 by omega)]
      refine zk_T.br (f1 := (95, [(0, .ref 65), (1, .int fe), (3, .int od), (4, .int ev), (5, .int (nI j)), (6, .int od)], [])) (f2 := (81, [(0, .ref 65), (1, .int fe), (3, .int od), (4, .int ev), (5, .int (nI j)), (6, .int od)], [])) rfl (fun c5 => ?_) (fun c5 => ?_)
      · have c5 : (v 66 j) = 0 := of_decide_eq_true c5
        refine zk_T.adv 2 (f' := (42, [(0, .ref 65), (1, .int fe), (3, .int od), (4, .int ev), (5, .int ((nI j) + 1))], [])) (h' := zH (zb v 65 (upd (upd (upd (upd (upd (v 65) 3 la) 4 lt) 5 wo) 6 ls) 7 kp)) w t) rfl ?_
        rw [nI_1]
        simp only [zl_followG, zk_or, if_neg c2, if_pos c5] at hk
        exact hk
      · have c5 : ¬ ((v 66 j) = 0) := of_decide_eq_false c5
        refine zk_T.adv 4 (f' := (87, [(0, .ref 65), (1, .int fe), (3, .int od), (4, .int ev), (5, .int (nI j)), (6, .int od)], [.int od, .int fe, .int (nI j), .ref 65])) (h' := zH (zb v 65 (upd (upd (upd (upd (upd (v 65) 3 la) 4 lt) 5 wo) 6 ls) 7 kp)) w t) rfl ?_
        refine zk_T.cl (v := some (.int ((zr_oy (v 66 j) la lt wo ls kp j fe od).1))) (h' := zH (zb v 65 (upd (upd (upd (upd (upd (v 65) 3 ((zr_oy (v 66 j) la lt wo ls kp j fe od).2.1)) 4 ((zr_oy (v 66 j) la lt wo ls kp j fe od).2.2.1)) 5 ((zr_oy (v 66 j) la lt wo ls kp j fe od).2.2.2.1)) 6 ((zr_oy (v 66 j) la lt wo ls kp j fe od).2.2.2.2.1)) 7 ((zr_oy (v 66 j) la lt wo ls kp j fe od).2.2.2.2.2))) w t) rfl (zs_oyH j (by omega) fe od) ?_
        show zk_T zk_mt zk_ex Ls xs zm_159 (90, [(0, .ref 65), (1, .int fe), (3, .int od), (4, .int ev), (5, .int (nI j)), (6, .int od)], [.int ((zr_oy (v 66 j) la lt wo ls kp j fe od).1)]) (zH (zb v 65 (upd (upd (upd (upd (upd (v 65) 3 ((zr_oy (v 66 j) la lt wo ls kp j fe od).2.1)) 4 ((zr_oy (v 66 j) la lt wo ls kp j fe od).2.2.1)) 5 ((zr_oy (v 66 j) la lt wo ls kp j fe od).2.2.2.1)) 6 ((zr_oy (v 66 j) la lt wo ls kp j fe od).2.2.2.2.1)) 7 ((zr_oy (v 66 j) la lt wo ls kp j fe od).2.2.2.2.2))) w t) _
        refine zk_T.br (f1 := (93, [(0, .ref 65), (1, .int fe), (3, .int od), (4, .int ev), (5, .int (nI j)), (6, .int od)], [])) (f2 := (95, [(0, .ref 65), (1, .int fe), (3, .int od), (4, .int ev), (5, .int (nI j)), (6, .int od)], [])) rfl (fun c6 => ?_) (fun c6 => ?_)
        · have c6 : ((zr_oy (v 66 j) la lt wo ls kp j fe od).1) = 0 := of_decide_eq_true c6
          refine zk_T.adv 1 (f' := (94, [(0, .ref 65), (1, .int fe), (3, .int od), (4, .int ev), (5, .int (nI j)), (6, .int od)], [.int 0])) (h' := zH (zb v 65 (upd (upd (upd (upd (upd (v 65) 3 ((zr_oy (v 66 j) la lt wo ls kp j fe od).2.1)) 4 ((zr_oy (v 66 j) la lt wo ls kp j fe od).2.2.1)) 5 ((zr_oy (v 66 j) la lt wo ls kp j fe od).2.2.2.1)) 6 ((zr_oy (v 66 j) la lt wo ls kp j fe od).2.2.2.2.1)) 7 ((zr_oy (v 66 j) la lt wo ls kp j fe od).2.2.2.2.2))) w t) rfl ?_
          simp only [zl_followG, zk_or, if_neg c2, if_neg c5, if_pos c6] at hk
          exact zk_T.rt rfl rfl hk
        · have c6 : ¬ (((zr_oy (v 66 j) la lt wo ls kp j fe od).1) = 0) := of_decide_eq_false c6
          refine zk_T.adv 2 (f' := (42, [(0, .ref 65), (1, .int fe), (3, .int od), (4, .int ev), (5, .int ((nI j) + 1))], [])) (h' := zH (zb v 65 (upd (upd (upd (upd (upd (v 65) 3 ((zr_oy (v 66 j) la lt wo ls kp j fe od).2.1)) 4 ((zr_oy (v 66 j) la lt wo ls kp j fe od).2.2.1)) 5 ((zr_oy (v 66 j) la lt wo ls kp j fe od).2.2.2.1)) 6 ((zr_oy (v 66 j) la lt wo ls kp j fe od).2.2.2.2.1)) 7 ((zr_oy (v 66 j) la lt wo ls kp j fe od).2.2.2.2.2))) w t) rfl ?_
          rw [nI_1]
          simp only [zl_followG, zk_or, if_neg c2, if_neg c5, if_neg c6] at hk
          exact hk
  · obtain ⟨la, lt, wo, ls, kp⟩ := s
    show zk_T zk_mt zk_ex Ls xs zm_159 (42, [(0, .ref 65), (1, .int fe), (3, .int od), (4, .int ev), (5, .int (nI (1 + sp)))], []) (zH (zb v 65 (upd (upd (upd (upd (upd (v 65) 3 la) 4 lt) 5 wo) 6 ls) 7 kp)) w t) q
    refine zk_T.adv 3 (f' := (48, [(0, .ref 65), (1, .int fe), (3, .int od), (4, .int ev), (5, .int (nI (1 + sp)))], [.int (v 65 1), .int (nI (1 + sp))])) (h' := zH (zb v 65 (upd (upd (upd (upd (upd (v 65) 3 la) 4 lt) 5 wo) 6 ls) 7 kp)) w t) rfl ?_
    refine zk_T.br (f1 := (101, [(0, .ref 65), (1, .int fe), (3, .int od), (4, .int ev), (5, .int (nI (1 + sp)))], [])) (f2 := (51, [(0, .ref 65), (1, .int fe), (3, .int od), (4, .int ev), (5, .int (nI (1 + sp)))], [])) rfl (fun c1 => ?_) (fun c1 => absurd (by rw [hs]; exact nI_lt (show sp < 1 + sp by omega) (by omega)) (of_decide_eq_false c1))
    exact hk
  · exact trivial
/-- BasketKeep$Walk.follow -/
theorem zs_followH (sp : Nat) (hs : v 65 1 = nI sp) (hsp : sp ≤ 60) (fe l0 od ev : Int32) : zk_Cr zk_mt zk_ex Ls xs 159 [.ref 65, .int fe, .int l0, .int od, .int ev] (zH v w t) (some (.int (zr_follow (v 66) (v 65 0) sp fe l0 od ev).1), zH (zb v 65 (upd (upd (upd (upd (upd (v 65) 3 ((zr_follow (v 66) (v 65 0) sp fe l0 od ev).2.1)) 4 ((zr_follow (v 66) (v 65 0) sp fe l0 od ev).2.2.1)) 5 ((zr_follow (v 66) (v 65 0) sp fe l0 od ev).2.2.2.1)) 6 ((zr_follow (v 66) (v 65 0) sp fe l0 od ev).2.2.2.2.1)) 7 ((zr_follow (v 66) (v 65 0) sp fe l0 od ev).2.2.2.2.2))) w t) := by
  refine zk_Cr.of (K := zm_159) rfl rfl rfl ?_
  show zk_T zk_mt zk_ex Ls xs zm_159 (0, [(0, .ref 65), (1, .int fe), (2, .int l0), (3, .int od), (4, .int ev)], []) (zH v w t) _
  refine zk_T.adv 15 (f' := (27, [(0, .ref 65), (1, .int fe), (2, .int l0), (3, .int od), (4, .int ev)], [.int l0, .ref 65])) (h' := zH (zb v 65 (upd (upd (upd (upd (v 65) 3 (-2)) 4 (-2)) 6 l0) 7 0)) w t) rfl ?_
  refine zk_T.br (f1 := (35, [(0, .ref 65), (1, .int fe), (2, .int l0), (3, .int od), (4, .int ev)], [.ref 65])) (f2 := (30, [(0, .ref 65), (1, .int fe), (2, .int l0), (3, .int od), (4, .int ev)], [.ref 65])) rfl (fun c1 => ?_) (fun c1 => ?_)
  · have c1 : l0 ≤ 0 := of_decide_eq_true c1
    refine zk_T.adv 4 (f' := (42, [(0, .ref 65), (1, .int fe), (3, .int od), (4, .int ev), (5, .int 1)], [])) (h' := zH (zb v 65 (upd (upd (upd (upd (upd (v 65) 3 (-2)) 4 (-2)) 5 0) 6 l0) 7 0)) w t) rfl ?_
    refine zl_followH sp hs hsp fe od ev ((-2), (-2), 0, l0, 0) _ ?_
    cases z2 : zfr (zl_followG (v 66) (v 65 0) fe od ev) sp 1 ((-2), (-2), 0, l0, 0) with
    | inl s =>
      show zk_T zk_mt zk_ex Ls xs zm_159 (101, [(0, .ref 65), (1, .int fe), (3, .int od), (4, .int ev), (5, .int (nI (1 + sp)))], []) (zH (zb v 65 (upd (upd (upd (upd (upd (v 65) 3 s.1) 4 s.2.1) 5 s.2.2.1) 6 s.2.2.2.1) 7 s.2.2.2.2)) w t) _
      refine zk_T.adv 1 (f' := (102, [(0, .ref 65), (1, .int fe), (3, .int od), (4, .int ev), (5, .int (nI (1 + sp)))], [.int 1])) (h' := zH (zb v 65 (upd (upd (upd (upd (upd (v 65) 3 s.1) 4 s.2.1) 5 s.2.2.1) 6 s.2.2.2.1) 7 s.2.2.2.2)) w t) rfl ?_
      exact zk_T.rt rfl rfl (by simp only [zr_follow, if_pos c1, z2] <;> rfl)
    | inr r =>
      show ((some (Value.int r.1), zH (zb v 65 (upd (upd (upd (upd (upd (v 65) 3 r.2.1) 4 r.2.2.1) 5 r.2.2.2.1) 6 r.2.2.2.2.1) 7 r.2.2.2.2.2)) w t) : Option Value × zk_H) = _
      simp only [zr_follow, if_pos c1, z2] <;> rfl
  · have c1 : ¬ (l0 ≤ 0) := of_decide_eq_false c1
    refine zk_T.adv 5 (f' := (42, [(0, .ref 65), (1, .int fe), (3, .int od), (4, .int ev), (5, .int 1)], [])) (h' := zH (zb v 65 (upd (upd (upd (upd (upd (v 65) 3 (-2)) 4 (-2)) 5 (-2)) 6 l0) 7 0)) w t) rfl ?_
    refine zl_followH sp hs hsp fe od ev ((-2), (-2), (-2), l0, 0) _ ?_
    cases z3 : zfr (zl_followG (v 66) (v 65 0) fe od ev) sp 1 ((-2), (-2), (-2), l0, 0) with
    | inl s =>
      show zk_T zk_mt zk_ex Ls xs zm_159 (101, [(0, .ref 65), (1, .int fe), (3, .int od), (4, .int ev), (5, .int (nI (1 + sp)))], []) (zH (zb v 65 (upd (upd (upd (upd (upd (v 65) 3 s.1) 4 s.2.1) 5 s.2.2.1) 6 s.2.2.2.1) 7 s.2.2.2.2)) w t) _
      refine zk_T.adv 1 (f' := (102, [(0, .ref 65), (1, .int fe), (3, .int od), (4, .int ev), (5, .int (nI (1 + sp)))], [.int 1])) (h' := zH (zb v 65 (upd (upd (upd (upd (upd (v 65) 3 s.1) 4 s.2.1) 5 s.2.2.1) 6 s.2.2.2.1) 7 s.2.2.2.2)) w t) rfl ?_
      exact zk_T.rt rfl rfl (by simp only [zr_follow, if_neg c1, z3] <;> rfl)
    | inr r =>
      show ((some (Value.int r.1), zH (zb v 65 (upd (upd (upd (upd (upd (v 65) 3 r.2.1) 4 r.2.2.1) 5 r.2.2.2.1) 6 r.2.2.2.2.1) 7 r.2.2.2.2.2)) w t) : Option Value × zk_H) = _
      simp only [zr_follow, if_neg c1, z3] <;> rfl
/-- BasketKeep$Walk.followBare -/
theorem zs_followBareH (sp : Nat) (hs : v 65 1 = nI sp) (hsp : sp ≤ 60) (fe : Int32) : zk_Cr zk_mt zk_ex Ls xs 206 [.ref 65, .int fe] (zH v w t) (some (.int ((zr_follow (v 66) (v 65 0) sp fe 0 0 0).1)), zH (zb v 65 (upd (upd (upd (upd (upd (v 65) 3 ((zr_follow (v 66) (v 65 0) sp fe 0 0 0).2.1)) 4 ((zr_follow (v 66) (v 65 0) sp fe 0 0 0).2.2.1)) 5 ((zr_follow (v 66) (v 65 0) sp fe 0 0 0).2.2.2.1)) 6 ((zr_follow (v 66) (v 65 0) sp fe 0 0 0).2.2.2.2.1)) 7 ((zr_follow (v 66) (v 65 0) sp fe 0 0 0).2.2.2.2.2))) w t) := by
  refine zk_Cr.of (K := zm_206) rfl rfl rfl ?_
  show zk_T zk_mt zk_ex Ls xs zm_206 (0, [(0, .ref 65), (1, .int fe)], []) (zH v w t) _
  refine zk_T.adv 5 (f' := (5, [(0, .ref 65), (1, .int fe)], [.int 0, .int 0, .int 0, .int fe, .ref 65])) (h' := zH v w t) rfl ?_
  refine zk_T.cl (v := some (.int ((zr_follow (v 66) (v 65 0) sp fe 0 0 0).1))) (h' := zH (zb v 65 (upd (upd (upd (upd (upd (v 65) 3 ((zr_follow (v 66) (v 65 0) sp fe 0 0 0).2.1)) 4 ((zr_follow (v 66) (v 65 0) sp fe 0 0 0).2.2.1)) 5 ((zr_follow (v 66) (v 65 0) sp fe 0 0 0).2.2.2.1)) 6 ((zr_follow (v 66) (v 65 0) sp fe 0 0 0).2.2.2.2.1)) 7 ((zr_follow (v 66) (v 65 0) sp fe 0 0 0).2.2.2.2.2))) w t) rfl (zs_followH (v := v) sp hs hsp fe 0 0 0) ?_
  show zk_T zk_mt zk_ex Ls xs zm_206 (8, [(0, .ref 65), (1, .int fe)], [.int ((zr_follow (v 66) (v 65 0) sp fe 0 0 0).1)]) (zH (zb v 65 (upd (upd (upd (upd (upd (v 65) 3 ((zr_follow (v 66) (v 65 0) sp fe 0 0 0).2.1)) 4 ((zr_follow (v 66) (v 65 0) sp fe 0 0 0).2.2.1)) 5 ((zr_follow (v 66) (v 65 0) sp fe 0 0 0).2.2.2.1)) 6 ((zr_follow (v 66) (v 65 0) sp fe 0 0 0).2.2.2.2.1)) 7 ((zr_follow (v 66) (v 65 0) sp fe 0 0 0).2.2.2.2.2))) w t) _
  exact zk_T.rt rfl (decide_eq_true (zr_follow01 _ _ _ _ _ _ _)) (by rfl)
/-- BasketKeep$Walk.followIn -/
theorem zs_followInH_now (sp : Nat) (hs : v 65 1 = nI sp) (hsp : sp ≤ 60) (a e : Nat) (ha : a < 4) (he : e < 5) (hke : v 23 e = 0 ∨ v 23 e = 1 ∨ v 23 e = 2) (th sl : Int32) : zk_Cr zk_mt zk_ex Ls xs 207 [.ref 65, .ref 20, .ref 32, .int (nI a), .int (nI e), .int th, .int sl] (zH v w t) (some (.int ((zr_follow (v 66) (v 65 0) sp (v 27 a) (v 35 e) ((zr_heldOff (v 23 e) th 1) &&& (sl ^^^ (-1))) ((zr_heldOff (v 23 e) th 2) &&& (sl ^^^ (-1)))).1)), zH (zb v 65 (upd (upd (upd (upd (upd (v 65) 3 ((zr_follow (v 66) (v 65 0) sp (v 27 a) (v 35 e) ((zr_heldOff (v 23 e) th 1) &&& (sl ^^^ (-1))) ((zr_heldOff (v 23 e) th 2) &&& (sl ^^^ (-1)))).2.1)) 4 ((zr_follow (v 66) (v 65 0) sp (v 27 a) (v 35 e) ((zr_heldOff (v 23 e) th 1) &&& (sl ^^^ (-1))) ((zr_heldOff (v 23 e) th 2) &&& (sl ^^^ (-1)))).2.2.1)) 5 ((zr_follow (v 66) (v 65 0) sp (v 27 a) (v 35 e) ((zr_heldOff (v 23 e) th 1) &&& (sl ^^^ (-1))) ((zr_heldOff (v 23 e) th 2) &&& (sl ^^^ (-1)))).2.2.2.1)) 6 ((zr_follow (v 66) (v 65 0) sp (v 27 a) (v 35 e) ((zr_heldOff (v 23 e) th 1) &&& (sl ^^^ (-1))) ((zr_heldOff (v 23 e) th 2) &&& (sl ^^^ (-1)))).2.2.2.2.1)) 7 ((zr_follow (v 66) (v 65 0) sp (v 27 a) (v 35 e) ((zr_heldOff (v 23 e) th 1) &&& (sl ^^^ (-1))) ((zr_heldOff (v 23 e) th 2) &&& (sl ^^^ (-1)))).2.2.2.2.2))) w t) := by
  refine zk_Cr.of (K := zm_207) rfl rfl rfl ?_
  show zk_T zk_mt zk_ex Ls xs zm_207 (0, [(0, .ref 65), (1, .ref 20), (2, .ref 32), (3, .int (nI a)), (4, .int (nI e)), (5, .int th), (6, .int sl)], []) (zH v w t) _
  refine zk_T.adv 4 (f' := (6, [(0, .ref 65), (1, .ref 20), (2, .ref 32), (3, .int (nI a)), (4, .int (nI e)), (5, .int th), (6, .int sl)], [.int 1, .int th, .int (nI e), .ref 20])) (h' := zH v w t) rfl ?_
  refine zk_T.cl (v := some (.int (zr_heldOff (v 23 e) th 1))) (h' := zH v w t) rfl (zs_heldOff (v := v) e (by omega) hke th 1) ?_
  show zk_T zk_mt zk_ex Ls xs zm_207 (9, [(0, .ref 65), (1, .ref 20), (2, .ref 32), (3, .int (nI a)), (4, .int (nI e)), (5, .int th), (6, .int sl)], [.int (zr_heldOff (v 23 e) th 1)]) (zH v w t) _
  refine zk_T.adv 9 (f' := (22, [(0, .ref 65), (1, .ref 20), (2, .ref 32), (3, .int (nI a)), (4, .int (nI e)), (5, .int th), (6, .int sl), (7, .int ((zr_heldOff (v 23 e) th 1) &&& (sl ^^^ (-1))))], [.int 2, .int th, .int (nI e), .ref 20])) (h' := zH v w t) rfl ?_
  refine zk_T.cl (v := some (.int (zr_heldOff (v 23 e) th 2))) (h' := zH v w t) rfl (zs_heldOff (v := v) e (by omega) hke th 2) ?_
  show zk_T zk_mt zk_ex Ls xs zm_207 (25, [(0, .ref 65), (1, .ref 20), (2, .ref 32), (3, .int (nI a)), (4, .int (nI e)), (5, .int th), (6, .int sl), (7, .int ((zr_heldOff (v 23 e) th 1) &&& (sl ^^^ (-1))))], [.int (zr_heldOff (v 23 e) th 2)]) (zH v w t) _
  refine zk_T.adv 9 (f' := (38, [(0, .ref 65), (1, .ref 20), (2, .ref 32), (3, .int (nI a)), (4, .int (nI e)), (5, .int th), (6, .int sl), (7, .int ((zr_heldOff (v 23 e) th 1) &&& (sl ^^^ (-1)))), (8, .int ((zr_heldOff (v 23 e) th 2) &&& (sl ^^^ (-1))))], [.int (nI a), .ref 27, .ref 65])) (h' := zH v w t) rfl ?_
  refine zk_T.ob (f' := (39, [(0, .ref 65), (1, .ref 20), (2, .ref 32), (3, .int (nI a)), (4, .int (nI e)), (5, .int th), (6, .int sl), (7, .int ((zr_heldOff (v 23 e) th 1) &&& (sl ^^^ (-1)))), (8, .int ((zr_heldOff (v 23 e) th 2) &&& (sl ^^^ (-1))))], [.int (v 27 (nI a).toNatClampNeg), .ref 65])) (h' := zH v w t) rfl (by first | exact zk_inN (by omega) (by decide) | decide) ?_
  rw [nI_clamp (show a < 2 ^ 31 by omega)]
  refine zk_T.adv 3 (f' := (45, [(0, .ref 65), (1, .ref 20), (2, .ref 32), (3, .int (nI a)), (4, .int (nI e)), (5, .int th), (6, .int sl), (7, .int ((zr_heldOff (v 23 e) th 1) &&& (sl ^^^ (-1)))), (8, .int ((zr_heldOff (v 23 e) th 2) &&& (sl ^^^ (-1))))], [.int (nI e), .ref 35, .int (v 27 a), .ref 65])) (h' := zH v w t) rfl ?_
  refine zk_T.ob (f' := (46, [(0, .ref 65), (1, .ref 20), (2, .ref 32), (3, .int (nI a)), (4, .int (nI e)), (5, .int th), (6, .int sl), (7, .int ((zr_heldOff (v 23 e) th 1) &&& (sl ^^^ (-1)))), (8, .int ((zr_heldOff (v 23 e) th 2) &&& (sl ^^^ (-1))))], [.int (v 35 (nI e).toNatClampNeg), .int (v 27 a), .ref 65])) (h' := zH v w t) rfl (by first | exact zk_inN (by omega) (by decide) | decide) ?_
  rw [nI_clamp (show e < 2 ^ 31 by omega)]
  refine zk_T.adv 2 (f' := (50, [(0, .ref 65), (1, .ref 20), (2, .ref 32), (3, .int (nI a)), (4, .int (nI e)), (5, .int th), (6, .int sl), (7, .int ((zr_heldOff (v 23 e) th 1) &&& (sl ^^^ (-1)))), (8, .int ((zr_heldOff (v 23 e) th 2) &&& (sl ^^^ (-1))))], [.int ((zr_heldOff (v 23 e) th 2) &&& (sl ^^^ (-1))), .int ((zr_heldOff (v 23 e) th 1) &&& (sl ^^^ (-1))), .int (v 35 e), .int (v 27 a), .ref 65])) (h' := zH v w t) rfl ?_
  refine zk_T.cl (v := some (.int ((zr_follow (v 66) (v 65 0) sp (v 27 a) (v 35 e) ((zr_heldOff (v 23 e) th 1) &&& (sl ^^^ (-1))) ((zr_heldOff (v 23 e) th 2) &&& (sl ^^^ (-1)))).1))) (h' := zH (zb v 65 (upd (upd (upd (upd (upd (v 65) 3 ((zr_follow (v 66) (v 65 0) sp (v 27 a) (v 35 e) ((zr_heldOff (v 23 e) th 1) &&& (sl ^^^ (-1))) ((zr_heldOff (v 23 e) th 2) &&& (sl ^^^ (-1)))).2.1)) 4 ((zr_follow (v 66) (v 65 0) sp (v 27 a) (v 35 e) ((zr_heldOff (v 23 e) th 1) &&& (sl ^^^ (-1))) ((zr_heldOff (v 23 e) th 2) &&& (sl ^^^ (-1)))).2.2.1)) 5 ((zr_follow (v 66) (v 65 0) sp (v 27 a) (v 35 e) ((zr_heldOff (v 23 e) th 1) &&& (sl ^^^ (-1))) ((zr_heldOff (v 23 e) th 2) &&& (sl ^^^ (-1)))).2.2.2.1)) 6 ((zr_follow (v 66) (v 65 0) sp (v 27 a) (v 35 e) ((zr_heldOff (v 23 e) th 1) &&& (sl ^^^ (-1))) ((zr_heldOff (v 23 e) th 2) &&& (sl ^^^ (-1)))).2.2.2.2.1)) 7 ((zr_follow (v 66) (v 65 0) sp (v 27 a) (v 35 e) ((zr_heldOff (v 23 e) th 1) &&& (sl ^^^ (-1))) ((zr_heldOff (v 23 e) th 2) &&& (sl ^^^ (-1)))).2.2.2.2.2))) w t) rfl (zs_followH (v := v) sp hs hsp (v 27 a) (v 35 e) ((zr_heldOff (v 23 e) th 1) &&& (sl ^^^ (-1))) ((zr_heldOff (v 23 e) th 2) &&& (sl ^^^ (-1)))) ?_
  show zk_T zk_mt zk_ex Ls xs zm_207 (53, [(0, .ref 65), (1, .ref 20), (2, .ref 32), (3, .int (nI a)), (4, .int (nI e)), (5, .int th), (6, .int sl), (7, .int ((zr_heldOff (v 23 e) th 1) &&& (sl ^^^ (-1)))), (8, .int ((zr_heldOff (v 23 e) th 2) &&& (sl ^^^ (-1))))], [.int ((zr_follow (v 66) (v 65 0) sp (v 27 a) (v 35 e) ((zr_heldOff (v 23 e) th 1) &&& (sl ^^^ (-1))) ((zr_heldOff (v 23 e) th 2) &&& (sl ^^^ (-1)))).1)]) (zH (zb v 65 (upd (upd (upd (upd (upd (v 65) 3 ((zr_follow (v 66) (v 65 0) sp (v 27 a) (v 35 e) ((zr_heldOff (v 23 e) th 1) &&& (sl ^^^ (-1))) ((zr_heldOff (v 23 e) th 2) &&& (sl ^^^ (-1)))).2.1)) 4 ((zr_follow (v 66) (v 65 0) sp (v 27 a) (v 35 e) ((zr_heldOff (v 23 e) th 1) &&& (sl ^^^ (-1))) ((zr_heldOff (v 23 e) th 2) &&& (sl ^^^ (-1)))).2.2.1)) 5 ((zr_follow (v 66) (v 65 0) sp (v 27 a) (v 35 e) ((zr_heldOff (v 23 e) th 1) &&& (sl ^^^ (-1))) ((zr_heldOff (v 23 e) th 2) &&& (sl ^^^ (-1)))).2.2.2.1)) 6 ((zr_follow (v 66) (v 65 0) sp (v 27 a) (v 35 e) ((zr_heldOff (v 23 e) th 1) &&& (sl ^^^ (-1))) ((zr_heldOff (v 23 e) th 2) &&& (sl ^^^ (-1)))).2.2.2.2.1)) 7 ((zr_follow (v 66) (v 65 0) sp (v 27 a) (v 35 e) ((zr_heldOff (v 23 e) th 1) &&& (sl ^^^ (-1))) ((zr_heldOff (v 23 e) th 2) &&& (sl ^^^ (-1)))).2.2.2.2.2))) w t) _
  exact zk_T.rt rfl (decide_eq_true (zr_follow01 _ _ _ _ _ _ _)) (by rfl)
end Z25
