/-! contracts: the reference: more of its own -/
section Z51
variable {Ls : Nat} {xs : Nat → Int32} {v : Nat → Nat → Int32} {w : Nat → Nat → Int64} {t : zk_H}
/-- BasketKeepModel.anew -/
theorem zs_manew  : zk_Cr zk_mt zk_ex Ls xs 42 [.ref 69] (zH v w t) (none, zH (zb v 68 (upd (upd (v 68) 0 0) 11 0)) w t) := by
  refine zk_Cr.of (K := zm_42) rfl rfl rfl ?_
  show zk_T zk_mt zk_ex Ls xs zm_42 (0, [(0, .ref 69)], []) (zH v w t) _
  refine zk_T.adv 6 (f' := (10, [(0, .ref 69)], [])) (h' := zH (zb v 68 (upd (upd (v 68) 0 0) 11 0)) w t) rfl ?_
  exact zk_T.rt rfl rfl (by rfl)
/-- BasketKeepModel.no -/
theorem zs_mno (x : Int32) : zk_Cr zk_mt zk_ex Ls xs 57 [.ref 69, .int x] (zH v w t) (some (.int (-1)), zH (zb v 68 (upd (v 68) 11 x)) w t) := by
  refine zk_Cr.of (K := zm_57) rfl rfl rfl ?_
  show zk_T zk_mt zk_ex Ls xs zm_57 (0, [(0, .ref 69), (1, .int x)], []) (zH v w t) _
  refine zk_T.adv 4 (f' := (6, [(0, .ref 69), (1, .int x)], [.int (-1)])) (h' := zH (zb v 68 (upd (v 68) 11 x)) w t) rfl ?_
  exact zk_T.rt rfl rfl (by rfl)
/-- BasketKeepModel.isNot -/
theorem zs_misNot (x : Int32) : zk_Cr zk_mt zk_ex Ls xs 52 [.ref 69, .int x] (zH v w t) (some (.int 0), zH (zb v 68 (upd (v 68) 11 x)) w t) := by
  refine zk_Cr.of (K := zm_52) rfl rfl rfl ?_
  show zk_T zk_mt zk_ex Ls xs zm_52 (0, [(0, .ref 69), (1, .int x)], []) (zH v w t) _
  refine zk_T.adv 4 (f' := (6, [(0, .ref 69), (1, .int x)], [.int 0])) (h' := zH (zb v 68 (upd (v 68) 11 x)) w t) rfl ?_
  exact zk_T.rt rfl rfl (by rfl)
def zl_cpStG (fr : Nat → Int32) (j : Nat) (s : (Nat → Int32)) : (Nat → Int32) := match s with
  | to => upd to (0 + j) (fr (0 + j))
theorem zl_cpSt  : ∀ (s : (Nat → Int32)) (q : Option Value × zk_H), zk_T zk_mt zk_ex Ls xs zm_43 ((fun (s : (Nat → Int32)) => ((28, [(0, .ref 76), (1, .int 0), (2, .ref 77), (3, .int 0), (4, .int 16), (5, .int (nI (0 + 16)))], []) : zk_F)) (zf (zl_cpStG (v 75)) 16 0 s)) ((fun (s : (Nat → Int32)) => zH (zb v 76 s) w t) (zf (zl_cpStG (v 75)) 16 0 s)) q → zk_T zk_mt zk_ex Ls xs zm_43 (3, [(0, .ref 76), (1, .int 0), (2, .ref 77), (3, .int 0), (4, .int 16), (5, .int (nI 0))], []) (zH (zb v 76 s) w t) q := by
  intro s q hk
  refine zk_forK (M := zm_43) (fun j (s : (Nat → Int32)) => (3, [(0, .ref 76), (1, .int 0), (2, .ref 77), (3, .int 0), (4, .int 16), (5, .int (nI j))], [])) (fun _ (s : (Nat → Int32)) => zH (zb v 76 s) w t) (zl_cpStG (v 75)) (fun _ _ => True) (fun (s : (Nat → Int32)) => (28, [(0, .ref 76), (1, .int 0), (2, .ref 77), (3, .int 0), (4, .int 16), (5, .int (nI (0 + 16)))], [])) (fun (s : (Nat → Int32)) => zH (zb v 76 s) w t) (16) 0 s (fun _ _ _ _ _ => trivial) (fun j s hj1 hj2 hp q hk => ?_) (fun s hp q hk => ?_) ?_ q hk
  · have hz := True.intro
    obtain ⟨to, rfl⟩ : ∃ z, z = s := ⟨_, rfl⟩
    show zk_T zk_mt zk_ex Ls xs zm_43 (3, [(0, .ref 76), (1, .int 0), (2, .ref 77), (3, .int 0), (4, .int 16), (5, .int (nI j))], []) (zH (zb v 76 to) w t) q
    refine zk_T.adv 2 (f' := (7, [(0, .ref 76), (1, .int 0), (2, .ref 77), (3, .int 0), (4, .int 16), (5, .int (nI j))], [.int 16, .int (nI j)])) (h' := zH (zb v 76 to) w t) rfl ?_
    refine zk_T.br (f1 := (28, [(0, .ref 76), (1, .int 0), (2, .ref 77), (3, .int 0), (4, .int 16), (5, .int (nI j))], [])) (f2 := (10, [(0, .ref 76), (1, .int 0), (2, .ref 77), (3, .int 0), (4, .int 16), (5, .int (nI j))], [])) rfl (fun c1 => absurd (of_decide_eq_true c1) (show ¬ (16 : Int32) ≤ nI j from nI_ge (by omega) (by decide))) (fun c1 => ?_)
    refine zk_T.adv 4 (f' := (15, [(0, .ref 76), (1, .int 0), (2, .ref 77), (3, .int 0), (4, .int 16), (5, .int (nI j))], [.int (0 + (nI j)), .ref 77])) (h' := zH (zb v 76 to) w t) rfl ?_
    rw [show 0 + (nI j) = nI (0 + j) from nI_add 0 j]
    refine zk_T.adv 4 (f' := (20, [(0, .ref 76), (1, .int 0), (2, .ref 77), (3, .int 0), (4, .int 16), (5, .int (nI j))], [.int (0 + (nI j)), .ref 76, .int (nI (0 + j)), .ref 77])) (h' := zH (zb v 76 to) w t) rfl ?_
    rw [show 0 + (nI j) = nI (0 + j) from nI_add 0 j]
    refine zk_T.ob (f' := (21, [(0, .ref 76), (1, .int 0), (2, .ref 77), (3, .int 0), (4, .int 16), (5, .int (nI j))], [.int (v 75 (nI (0 + j)).toNatClampNeg), .int (nI (0 + j)), .ref 77])) (h' := zH (zb v 76 to) w t) rfl (by first | exact zk_inN (by omega) (by decide) | decide) ?_
    rw [nI_clamp (show (0 + j) < 2 ^ 31 by omega)]
    refine zk_T.ob (f' := (22, [(0, .ref 76), (1, .int 0), (2, .ref 77), (3, .int 0), (4, .int 16), (5, .int (nI j))], [])) (h' := zH (zb v 76 (upd to (nI (0 + j)).toNatClampNeg (v 75 (0 + j)))) w t) rfl (by first | exact zk_inN (by omega) (by decide) | decide) ?_
    rw [nI_clamp (show (0 + j) < 2 ^ 31 by omega)]
    refine zk_T.adv 2 (f' := (3, [(0, .ref 76), (1, .int 0), (2, .ref 77), (3, .int 0), (4, .int 16), (5, .int ((nI j) + 1))], [])) (h' := zH (zb v 76 (upd to (0 + j) (v 75 (0 + j)))) w t) rfl ?_
    rw [nI_1]
    simp only [zl_cpStG] at hk
    exact hk
  · have hz := True.intro
    obtain ⟨to, rfl⟩ : ∃ z, z = s := ⟨_, rfl⟩
    show zk_T zk_mt zk_ex Ls xs zm_43 (3, [(0, .ref 76), (1, .int 0), (2, .ref 77), (3, .int 0), (4, .int 16), (5, .int (nI (0 + 16)))], []) (zH (zb v 76 to) w t) q
    refine zk_T.adv 2 (f' := (7, [(0, .ref 76), (1, .int 0), (2, .ref 77), (3, .int 0), (4, .int 16), (5, .int (nI (0 + 16)))], [.int 16, .int (nI (0 + 16))])) (h' := zH (zb v 76 to) w t) rfl ?_
    refine zk_T.br (f1 := (28, [(0, .ref 76), (1, .int 0), (2, .ref 77), (3, .int 0), (4, .int 16), (5, .int (nI (0 + 16)))], [])) (f2 := (10, [(0, .ref 76), (1, .int 0), (2, .ref 77), (3, .int 0), (4, .int 16), (5, .int (nI (0 + 16)))], [])) rfl (fun c1 => ?_) (fun c1 => absurd (show (16 : Int32) ≤ nI (0 + 16) from by decide) (of_decide_eq_false c1))
    exact hk
  · exact trivial
def zr_cpSt (fr to : Nat → Int32) : (Nat → Int32) := zf (zl_cpStG (fr)) 16 0 (to)
/-- BasketKeepModel.copy -/
theorem zs_cpSt  : zk_Cr zk_mt zk_ex Ls xs 43 [.ref 76, .int 0, .ref 77, .int 0, .int 16] (zH v w t) (none, zH (zb v 76 (zr_cpSt (v 75) (v 76))) w t) := by
  refine zk_Cr.of (K := zm_43) rfl rfl rfl ?_
  show zk_T zk_mt zk_ex Ls xs zm_43 (0, [(0, .ref 76), (1, .int 0), (2, .ref 77), (3, .int 0), (4, .int 16)], []) (zH v w t) _
  refine zk_T.adv 2 (f' := (3, [(0, .ref 76), (1, .int 0), (2, .ref 77), (3, .int 0), (4, .int 16), (5, .int 0)], [])) (h' := zH v w t) rfl ?_
  refine zl_cpSt (v := v) (w := w) (t := t) (v 76) _ ?_
  show zk_T zk_mt zk_ex Ls xs zm_43 (28, [(0, .ref 76), (1, .int 0), (2, .ref 77), (3, .int 0), (4, .int 16), (5, .int (nI (0 + 16)))], []) (zH (zb v 76 (zf (zl_cpStG (v 75)) 16 0 (v 76))) w t) _
  exact zk_T.rt rfl rfl (by simp only [zr_cpSt] <;> rfl)
def zl_cpTtG (fr : Nat → Int32) (j : Nat) (s : (Nat → Int32)) : (Nat → Int32) := match s with
  | to => upd to (0 + j) (fr (0 + j))
theorem zl_cpTt  : ∀ (s : (Nat → Int32)) (q : Option Value × zk_H), zk_T zk_mt zk_ex Ls xs zm_43 ((fun (s : (Nat → Int32)) => ((28, [(0, .ref 74), (1, .int 0), (2, .ref 77), (3, .int 0), (4, .int 16), (5, .int (nI (0 + 16)))], []) : zk_F)) (zf (zl_cpTtG (v 73)) 16 0 s)) ((fun (s : (Nat → Int32)) => zH (zb v 76 s) w t) (zf (zl_cpTtG (v 73)) 16 0 s)) q → zk_T zk_mt zk_ex Ls xs zm_43 (3, [(0, .ref 74), (1, .int 0), (2, .ref 77), (3, .int 0), (4, .int 16), (5, .int (nI 0))], []) (zH (zb v 76 s) w t) q := by
  intro s q hk
  refine zk_forK (M := zm_43) (fun j (s : (Nat → Int32)) => (3, [(0, .ref 74), (1, .int 0), (2, .ref 77), (3, .int 0), (4, .int 16), (5, .int (nI j))], [])) (fun _ (s : (Nat → Int32)) => zH (zb v 76 s) w t) (zl_cpTtG (v 73)) (fun _ _ => True) (fun (s : (Nat → Int32)) => (28, [(0, .ref 74), (1, .int 0), (2, .ref 77), (3, .int 0), (4, .int 16), (5, .int (nI (0 + 16)))], [])) (fun (s : (Nat → Int32)) => zH (zb v 76 s) w t) (16) 0 s (fun _ _ _ _ _ => trivial) (fun j s hj1 hj2 hp q hk => ?_) (fun s hp q hk => ?_) ?_ q hk
  · have hz := True.intro
    obtain ⟨to, rfl⟩ : ∃ z, z = s := ⟨_, rfl⟩
    show zk_T zk_mt zk_ex Ls xs zm_43 (3, [(0, .ref 74), (1, .int 0), (2, .ref 77), (3, .int 0), (4, .int 16), (5, .int (nI j))], []) (zH (zb v 76 to) w t) q
    refine zk_T.adv 2 (f' := (7, [(0, .ref 74), (1, .int 0), (2, .ref 77), (3, .int 0), (4, .int 16), (5, .int (nI j))], [.int 16, .int (nI j)])) (h' := zH (zb v 76 to) w t) rfl ?_
    refine zk_T.br (f1 := (28, [(0, .ref 74), (1, .int 0), (2, .ref 77), (3, .int 0), (4, .int 16), (5, .int (nI j))], [])) (f2 := (10, [(0, .ref 74), (1, .int 0), (2, .ref 77), (3, .int 0), (4, .int 16), (5, .int (nI j))], [])) rfl (fun c1 => absurd (of_decide_eq_true c1) (show ¬ (16 : Int32) ≤ nI j from nI_ge (by omega) (by decide))) (fun c1 => ?_)
    refine zk_T.adv 4 (f' := (15, [(0, .ref 74), (1, .int 0), (2, .ref 77), (3, .int 0), (4, .int 16), (5, .int (nI j))], [.int (0 + (nI j)), .ref 77])) (h' := zH (zb v 76 to) w t) rfl ?_
    rw [show 0 + (nI j) = nI (0 + j) from nI_add 0 j]
    refine zk_T.adv 4 (f' := (20, [(0, .ref 74), (1, .int 0), (2, .ref 77), (3, .int 0), (4, .int 16), (5, .int (nI j))], [.int (0 + (nI j)), .ref 74, .int (nI (0 + j)), .ref 77])) (h' := zH (zb v 76 to) w t) rfl ?_
    rw [show 0 + (nI j) = nI (0 + j) from nI_add 0 j]
    refine zk_T.ob (f' := (21, [(0, .ref 74), (1, .int 0), (2, .ref 77), (3, .int 0), (4, .int 16), (5, .int (nI j))], [.int (v 73 (nI (0 + j)).toNatClampNeg), .int (nI (0 + j)), .ref 77])) (h' := zH (zb v 76 to) w t) rfl (by first | exact zk_inN (by omega) (by decide) | decide) ?_
    rw [nI_clamp (show (0 + j) < 2 ^ 31 by omega)]
    refine zk_T.ob (f' := (22, [(0, .ref 74), (1, .int 0), (2, .ref 77), (3, .int 0), (4, .int 16), (5, .int (nI j))], [])) (h' := zH (zb v 76 (upd to (nI (0 + j)).toNatClampNeg (v 73 (0 + j)))) w t) rfl (by first | exact zk_inN (by omega) (by decide) | decide) ?_
    rw [nI_clamp (show (0 + j) < 2 ^ 31 by omega)]
    refine zk_T.adv 2 (f' := (3, [(0, .ref 74), (1, .int 0), (2, .ref 77), (3, .int 0), (4, .int 16), (5, .int ((nI j) + 1))], [])) (h' := zH (zb v 76 (upd to (0 + j) (v 73 (0 + j)))) w t) rfl ?_
    rw [nI_1]
    simp only [zl_cpTtG] at hk
    exact hk
  · have hz := True.intro
    obtain ⟨to, rfl⟩ : ∃ z, z = s := ⟨_, rfl⟩
    show zk_T zk_mt zk_ex Ls xs zm_43 (3, [(0, .ref 74), (1, .int 0), (2, .ref 77), (3, .int 0), (4, .int 16), (5, .int (nI (0 + 16)))], []) (zH (zb v 76 to) w t) q
    refine zk_T.adv 2 (f' := (7, [(0, .ref 74), (1, .int 0), (2, .ref 77), (3, .int 0), (4, .int 16), (5, .int (nI (0 + 16)))], [.int 16, .int (nI (0 + 16))])) (h' := zH (zb v 76 to) w t) rfl ?_
    refine zk_T.br (f1 := (28, [(0, .ref 74), (1, .int 0), (2, .ref 77), (3, .int 0), (4, .int 16), (5, .int (nI (0 + 16)))], [])) (f2 := (10, [(0, .ref 74), (1, .int 0), (2, .ref 77), (3, .int 0), (4, .int 16), (5, .int (nI (0 + 16)))], [])) rfl (fun c1 => ?_) (fun c1 => absurd (show (16 : Int32) ≤ nI (0 + 16) from by decide) (of_decide_eq_false c1))
    exact hk
  · exact trivial
def zr_cpTt (fr to : Nat → Int32) : (Nat → Int32) := zf (zl_cpTtG (fr)) 16 0 (to)
/-- BasketKeepModel.copy -/
theorem zs_cpTt  : zk_Cr zk_mt zk_ex Ls xs 43 [.ref 74, .int 0, .ref 77, .int 0, .int 16] (zH v w t) (none, zH (zb v 76 (zr_cpTt (v 73) (v 76))) w t) := by
  refine zk_Cr.of (K := zm_43) rfl rfl rfl ?_
  show zk_T zk_mt zk_ex Ls xs zm_43 (0, [(0, .ref 74), (1, .int 0), (2, .ref 77), (3, .int 0), (4, .int 16)], []) (zH v w t) _
  refine zk_T.adv 2 (f' := (3, [(0, .ref 74), (1, .int 0), (2, .ref 77), (3, .int 0), (4, .int 16), (5, .int 0)], [])) (h' := zH v w t) rfl ?_
  refine zl_cpTt (v := v) (w := w) (t := t) (v 76) _ ?_
  show zk_T zk_mt zk_ex Ls xs zm_43 (28, [(0, .ref 74), (1, .int 0), (2, .ref 77), (3, .int 0), (4, .int 16), (5, .int (nI (0 + 16)))], []) (zH (zb v 76 (zf (zl_cpTtG (v 73)) 16 0 (v 76))) w t) _
  exact zk_T.rt rfl rfl (by simp only [zr_cpTt] <;> rfl)
def zl_cpSuG (fr : Nat → Int32) (b : Nat) (j : Nat) (s : (Nat → Int32)) : (Nat → Int32) := match s with
  | to => upd to (b + j) (fr (0 + j))
theorem zl_cpSu (b : Nat) (hb : b + 16 ≤ 256) : ∀ (s : (Nat → Int32)) (q : Option Value × zk_H), zk_T zk_mt zk_ex Ls xs zm_43 ((fun (s : (Nat → Int32)) => ((28, [(0, .ref 76), (1, .int 0), (2, .ref 78), (3, .int (nI b)), (4, .int 16), (5, .int (nI (0 + 16)))], []) : zk_F)) (zf (zl_cpSuG (v 75) b) 16 0 s)) ((fun (s : (Nat → Int32)) => zH (zb v 77 s) w t) (zf (zl_cpSuG (v 75) b) 16 0 s)) q → zk_T zk_mt zk_ex Ls xs zm_43 (3, [(0, .ref 76), (1, .int 0), (2, .ref 78), (3, .int (nI b)), (4, .int 16), (5, .int (nI 0))], []) (zH (zb v 77 s) w t) q := by
  intro s q hk
  refine zk_forK (M := zm_43) (fun j (s : (Nat → Int32)) => (3, [(0, .ref 76), (1, .int 0), (2, .ref 78), (3, .int (nI b)), (4, .int 16), (5, .int (nI j))], [])) (fun _ (s : (Nat → Int32)) => zH (zb v 77 s) w t) (zl_cpSuG (v 75) b) (fun _ _ => True) (fun (s : (Nat → Int32)) => (28, [(0, .ref 76), (1, .int 0), (2, .ref 78), (3, .int (nI b)), (4, .int 16), (5, .int (nI (0 + 16)))], [])) (fun (s : (Nat → Int32)) => zH (zb v 77 s) w t) (16) 0 s (fun _ _ _ _ _ => trivial) (fun j s hj1 hj2 hp q hk => ?_) (fun s hp q hk => ?_) ?_ q hk
  · have hz := True.intro
    obtain ⟨to, rfl⟩ : ∃ z, z = s := ⟨_, rfl⟩
    show zk_T zk_mt zk_ex Ls xs zm_43 (3, [(0, .ref 76), (1, .int 0), (2, .ref 78), (3, .int (nI b)), (4, .int 16), (5, .int (nI j))], []) (zH (zb v 77 to) w t) q
    refine zk_T.adv 2 (f' := (7, [(0, .ref 76), (1, .int 0), (2, .ref 78), (3, .int (nI b)), (4, .int 16), (5, .int (nI j))], [.int 16, .int (nI j)])) (h' := zH (zb v 77 to) w t) rfl ?_
    refine zk_T.br (f1 := (28, [(0, .ref 76), (1, .int 0), (2, .ref 78), (3, .int (nI b)), (4, .int 16), (5, .int (nI j))], [])) (f2 := (10, [(0, .ref 76), (1, .int 0), (2, .ref 78), (3, .int (nI b)), (4, .int 16), (5, .int (nI j))], [])) rfl (fun c1 => absurd (of_decide_eq_true c1) (show ¬ (16 : Int32) ≤ nI j from nI_ge (by omega) (by decide))) (fun c1 => ?_)
    refine zk_T.adv 4 (f' := (15, [(0, .ref 76), (1, .int 0), (2, .ref 78), (3, .int (nI b)), (4, .int 16), (5, .int (nI j))], [.int ((nI b) + (nI j)), .ref 78])) (h' := zH (zb v 77 to) w t) rfl ?_
    rw [show (nI b) + (nI j) = nI (b + j) from nI_add b j]
    refine zk_T.adv 4 (f' := (20, [(0, .ref 76), (1, .int 0), (2, .ref 78), (3, .int (nI b)), (4, .int 16), (5, .int (nI j))], [.int (0 + (nI j)), .ref 76, .int (nI (b + j)), .ref 78])) (h' := zH (zb v 77 to) w t) rfl ?_
    rw [show 0 + (nI j) = nI (0 + j) from nI_add 0 j]
    refine zk_T.ob (f' := (21, [(0, .ref 76), (1, .int 0), (2, .ref 78), (3, .int (nI b)), (4, .int 16), (5, .int (nI j))], [.int (v 75 (nI (0 + j)).toNatClampNeg), .int (nI (b + j)), .ref 78])) (h' := zH (zb v 77 to) w t) rfl (by first | exact zk_inN (by omega) (by decide) | decide) ?_
    rw [nI_clamp (show (0 + j) < 2 ^ 31 by omega)]
    refine zk_T.ob (f' := (22, [(0, .ref 76), (1, .int 0), (2, .ref 78), (3, .int (nI b)), (4, .int 16), (5, .int (nI j))], [])) (h' := zH (zb v 77 (upd to (nI (b + j)).toNatClampNeg (v 75 (0 + j)))) w t) rfl (by first | exact zk_inN (by omega) (by decide) | decide) ?_
    rw [nI_clamp (show (b + j) < 2 ^ 31 by omega)]
    refine zk_T.adv 2 (f' := (3, [(0, .ref 76), (1, .int 0), (2, .ref 78), (3, .int (nI b)), (4, .int 16), (5, .int ((nI j) + 1))], [])) (h' := zH (zb v 77 (upd to (b + j) (v 75 (0 + j)))) w t) rfl ?_
    rw [nI_1]
    simp only [zl_cpSuG] at hk
    exact hk
  · have hz := True.intro
    obtain ⟨to, rfl⟩ : ∃ z, z = s := ⟨_, rfl⟩
    show zk_T zk_mt zk_ex Ls xs zm_43 (3, [(0, .ref 76), (1, .int 0), (2, .ref 78), (3, .int (nI b)), (4, .int 16), (5, .int (nI (0 + 16)))], []) (zH (zb v 77 to) w t) q
    refine zk_T.adv 2 (f' := (7, [(0, .ref 76), (1, .int 0), (2, .ref 78), (3, .int (nI b)), (4, .int 16), (5, .int (nI (0 + 16)))], [.int 16, .int (nI (0 + 16))])) (h' := zH (zb v 77 to) w t) rfl ?_
    refine zk_T.br (f1 := (28, [(0, .ref 76), (1, .int 0), (2, .ref 78), (3, .int (nI b)), (4, .int 16), (5, .int (nI (0 + 16)))], [])) (f2 := (10, [(0, .ref 76), (1, .int 0), (2, .ref 78), (3, .int (nI b)), (4, .int 16), (5, .int (nI (0 + 16)))], [])) rfl (fun c1 => ?_) (fun c1 => absurd (show (16 : Int32) ≤ nI (0 + 16) from by decide) (of_decide_eq_false c1))
    exact hk
  · exact trivial
def zr_cpSu (fr to : Nat → Int32) (b : Nat) : (Nat → Int32) := zf (zl_cpSuG (fr) b) 16 0 (to)
/-- BasketKeepModel.copy -/
theorem zs_cpSu (b : Nat) (hb : b + 16 ≤ 256) : zk_Cr zk_mt zk_ex Ls xs 43 [.ref 76, .int 0, .ref 78, .int (nI b), .int 16] (zH v w t) (none, zH (zb v 77 (zr_cpSu (v 75) (v 77) b)) w t) := by
  refine zk_Cr.of (K := zm_43) rfl rfl rfl ?_
  show zk_T zk_mt zk_ex Ls xs zm_43 (0, [(0, .ref 76), (1, .int 0), (2, .ref 78), (3, .int (nI b)), (4, .int 16)], []) (zH v w t) _
  refine zk_T.adv 2 (f' := (3, [(0, .ref 76), (1, .int 0), (2, .ref 78), (3, .int (nI b)), (4, .int 16), (5, .int 0)], [])) (h' := zH v w t) rfl ?_
  refine zl_cpSu (v := v) (w := w) (t := t) b hb (v 77) _ ?_
  show zk_T zk_mt zk_ex Ls xs zm_43 (28, [(0, .ref 76), (1, .int 0), (2, .ref 78), (3, .int (nI b)), (4, .int 16), (5, .int (nI (0 + 16)))], []) (zH (zb v 77 (zf (zl_cpSuG (v 75) b) 16 0 (v 77))) w t) _
  exact zk_T.rt rfl rfl (by simp only [zr_cpSu] <;> rfl)
def zl_cpUsG (fr : Nat → Int32) (b : Nat) (j : Nat) (s : (Nat → Int32)) : (Nat → Int32) := match s with
  | to => upd to (0 + j) (fr (b + j))
theorem zl_cpUs (b : Nat) (hb : b + 16 ≤ 256) : ∀ (s : (Nat → Int32)) (q : Option Value × zk_H), zk_T zk_mt zk_ex Ls xs zm_43 ((fun (s : (Nat → Int32)) => ((28, [(0, .ref 78), (1, .int (nI b)), (2, .ref 76), (3, .int 0), (4, .int 16), (5, .int (nI (0 + 16)))], []) : zk_F)) (zf (zl_cpUsG (v 77) b) 16 0 s)) ((fun (s : (Nat → Int32)) => zH (zb v 75 s) w t) (zf (zl_cpUsG (v 77) b) 16 0 s)) q → zk_T zk_mt zk_ex Ls xs zm_43 (3, [(0, .ref 78), (1, .int (nI b)), (2, .ref 76), (3, .int 0), (4, .int 16), (5, .int (nI 0))], []) (zH (zb v 75 s) w t) q := by
  intro s q hk
  refine zk_forK (M := zm_43) (fun j (s : (Nat → Int32)) => (3, [(0, .ref 78), (1, .int (nI b)), (2, .ref 76), (3, .int 0), (4, .int 16), (5, .int (nI j))], [])) (fun _ (s : (Nat → Int32)) => zH (zb v 75 s) w t) (zl_cpUsG (v 77) b) (fun _ _ => True) (fun (s : (Nat → Int32)) => (28, [(0, .ref 78), (1, .int (nI b)), (2, .ref 76), (3, .int 0), (4, .int 16), (5, .int (nI (0 + 16)))], [])) (fun (s : (Nat → Int32)) => zH (zb v 75 s) w t) (16) 0 s (fun _ _ _ _ _ => trivial) (fun j s hj1 hj2 hp q hk => ?_) (fun s hp q hk => ?_) ?_ q hk
  · have hz := True.intro
    obtain ⟨to, rfl⟩ : ∃ z, z = s := ⟨_, rfl⟩
    show zk_T zk_mt zk_ex Ls xs zm_43 (3, [(0, .ref 78), (1, .int (nI b)), (2, .ref 76), (3, .int 0), (4, .int 16), (5, .int (nI j))], []) (zH (zb v 75 to) w t) q
    refine zk_T.adv 2 (f' := (7, [(0, .ref 78), (1, .int (nI b)), (2, .ref 76), (3, .int 0), (4, .int 16), (5, .int (nI j))], [.int 16, .int (nI j)])) (h' := zH (zb v 75 to) w t) rfl ?_
    refine zk_T.br (f1 := (28, [(0, .ref 78), (1, .int (nI b)), (2, .ref 76), (3, .int 0), (4, .int 16), (5, .int (nI j))], [])) (f2 := (10, [(0, .ref 78), (1, .int (nI b)), (2, .ref 76), (3, .int 0), (4, .int 16), (5, .int (nI j))], [])) rfl (fun c1 => absurd (of_decide_eq_true c1) (show ¬ (16 : Int32) ≤ nI j from nI_ge (by omega) (by decide))) (fun c1 => ?_)
    refine zk_T.adv 4 (f' := (15, [(0, .ref 78), (1, .int (nI b)), (2, .ref 76), (3, .int 0), (4, .int 16), (5, .int (nI j))], [.int (0 + (nI j)), .ref 76])) (h' := zH (zb v 75 to) w t) rfl ?_
    rw [show 0 + (nI j) = nI (0 + j) from nI_add 0 j]
    refine zk_T.adv 4 (f' := (20, [(0, .ref 78), (1, .int (nI b)), (2, .ref 76), (3, .int 0), (4, .int 16), (5, .int (nI j))], [.int ((nI b) + (nI j)), .ref 78, .int (nI (0 + j)), .ref 76])) (h' := zH (zb v 75 to) w t) rfl ?_
    rw [show (nI b) + (nI j) = nI (b + j) from nI_add b j]
    refine zk_T.ob (f' := (21, [(0, .ref 78), (1, .int (nI b)), (2, .ref 76), (3, .int 0), (4, .int 16), (5, .int (nI j))], [.int (v 77 (nI (b + j)).toNatClampNeg), .int (nI (0 + j)), .ref 76])) (h' := zH (zb v 75 to) w t) rfl (by first | exact zk_inN (by omega) (by decide) | decide) ?_
    rw [nI_clamp (show (b + j) < 2 ^ 31 by omega)]
    refine zk_T.ob (f' := (22, [(0, .ref 78), (1, .int (nI b)), (2, .ref 76), (3, .int 0), (4, .int 16), (5, .int (nI j))], [])) (h' := zH (zb v 75 (upd to (nI (0 + j)).toNatClampNeg (v 77 (b + j)))) w t) rfl (by first | exact zk_inN (by omega) (by decide) | decide) ?_
    rw [nI_clamp (show (0 + j) < 2 ^ 31 by omega)]
    refine zk_T.adv 2 (f' := (3, [(0, .ref 78), (1, .int (nI b)), (2, .ref 76), (3, .int 0), (4, .int 16), (5, .int ((nI j) + 1))], [])) (h' := zH (zb v 75 (upd to (0 + j) (v 77 (b + j)))) w t) rfl ?_
    rw [nI_1]
    simp only [zl_cpUsG] at hk
    exact hk
  · have hz := True.intro
    obtain ⟨to, rfl⟩ : ∃ z, z = s := ⟨_, rfl⟩
    show zk_T zk_mt zk_ex Ls xs zm_43 (3, [(0, .ref 78), (1, .int (nI b)), (2, .ref 76), (3, .int 0), (4, .int 16), (5, .int (nI (0 + 16)))], []) (zH (zb v 75 to) w t) q
    refine zk_T.adv 2 (f' := (7, [(0, .ref 78), (1, .int (nI b)), (2, .ref 76), (3, .int 0), (4, .int 16), (5, .int (nI (0 + 16)))], [.int 16, .int (nI (0 + 16))])) (h' := zH (zb v 75 to) w t) rfl ?_
    refine zk_T.br (f1 := (28, [(0, .ref 78), (1, .int (nI b)), (2, .ref 76), (3, .int 0), (4, .int 16), (5, .int (nI (0 + 16)))], [])) (f2 := (10, [(0, .ref 78), (1, .int (nI b)), (2, .ref 76), (3, .int 0), (4, .int 16), (5, .int (nI (0 + 16)))], [])) rfl (fun c1 => ?_) (fun c1 => absurd (show (16 : Int32) ≤ nI (0 + 16) from by decide) (of_decide_eq_false c1))
    exact hk
  · exact trivial
def zr_cpUs (fr to : Nat → Int32) (b : Nat) : (Nat → Int32) := zf (zl_cpUsG (fr) b) 16 0 (to)
/-- BasketKeepModel.copy -/
theorem zs_cpUs (b : Nat) (hb : b + 16 ≤ 256) : zk_Cr zk_mt zk_ex Ls xs 43 [.ref 78, .int (nI b), .ref 76, .int 0, .int 16] (zH v w t) (none, zH (zb v 75 (zr_cpUs (v 77) (v 75) b)) w t) := by
  refine zk_Cr.of (K := zm_43) rfl rfl rfl ?_
  show zk_T zk_mt zk_ex Ls xs zm_43 (0, [(0, .ref 78), (1, .int (nI b)), (2, .ref 76), (3, .int 0), (4, .int 16)], []) (zH v w t) _
  refine zk_T.adv 2 (f' := (3, [(0, .ref 78), (1, .int (nI b)), (2, .ref 76), (3, .int 0), (4, .int 16), (5, .int 0)], [])) (h' := zH v w t) rfl ?_
  refine zl_cpUs (v := v) (w := w) (t := t) b hb (v 75) _ ?_
  show zk_T zk_mt zk_ex Ls xs zm_43 (28, [(0, .ref 78), (1, .int (nI b)), (2, .ref 76), (3, .int 0), (4, .int 16), (5, .int (nI (0 + 16)))], []) (zH (zb v 75 (zf (zl_cpUsG (v 77) b) 16 0 (v 75))) w t) _
  exact zk_T.rt rfl rfl (by simp only [zr_cpUs] <;> rfl)
def zl_cpSkG (fr : Nat → Int32) (b : Nat) (j : Nat) (s : (Nat → Int32)) : (Nat → Int32) := match s with
  | to => upd to (b + j) (fr (0 + j))
theorem zl_cpSk (b : Nat) (hb : b + 16 ≤ 48) : ∀ (s : (Nat → Int32)) (q : Option Value × zk_H), zk_T zk_mt zk_ex Ls xs zm_43 ((fun (s : (Nat → Int32)) => ((28, [(0, .ref 76), (1, .int 0), (2, .ref 79), (3, .int (nI b)), (4, .int 16), (5, .int (nI (0 + 16)))], []) : zk_F)) (zf (zl_cpSkG (v 75) b) 16 0 s)) ((fun (s : (Nat → Int32)) => zH (zb v 78 s) w t) (zf (zl_cpSkG (v 75) b) 16 0 s)) q → zk_T zk_mt zk_ex Ls xs zm_43 (3, [(0, .ref 76), (1, .int 0), (2, .ref 79), (3, .int (nI b)), (4, .int 16), (5, .int (nI 0))], []) (zH (zb v 78 s) w t) q := by
  intro s q hk
  refine zk_forK (M := zm_43) (fun j (s : (Nat → Int32)) => (3, [(0, .ref 76), (1, .int 0), (2, .ref 79), (3, .int (nI b)), (4, .int 16), (5, .int (nI j))], [])) (fun _ (s : (Nat → Int32)) => zH (zb v 78 s) w t) (zl_cpSkG (v 75) b) (fun _ _ => True) (fun (s : (Nat → Int32)) => (28, [(0, .ref 76), (1, .int 0), (2, .ref 79), (3, .int (nI b)), (4, .int 16), (5, .int (nI (0 + 16)))], [])) (fun (s : (Nat → Int32)) => zH (zb v 78 s) w t) (16) 0 s (fun _ _ _ _ _ => trivial) (fun j s hj1 hj2 hp q hk => ?_) (fun s hp q hk => ?_) ?_ q hk
  · have hz := True.intro
    obtain ⟨to, rfl⟩ : ∃ z, z = s := ⟨_, rfl⟩
    show zk_T zk_mt zk_ex Ls xs zm_43 (3, [(0, .ref 76), (1, .int 0), (2, .ref 79), (3, .int (nI b)), (4, .int 16), (5, .int (nI j))], []) (zH (zb v 78 to) w t) q
    refine zk_T.adv 2 (f' := (7, [(0, .ref 76), (1, .int 0), (2, .ref 79), (3, .int (nI b)), (4, .int 16), (5, .int (nI j))], [.int 16, .int (nI j)])) (h' := zH (zb v 78 to) w t) rfl ?_
    refine zk_T.br (f1 := (28, [(0, .ref 76), (1, .int 0), (2, .ref 79), (3, .int (nI b)), (4, .int 16), (5, .int (nI j))], [])) (f2 := (10, [(0, .ref 76), (1, .int 0), (2, .ref 79), (3, .int (nI b)), (4, .int 16), (5, .int (nI j))], [])) rfl (fun c1 => absurd (of_decide_eq_true c1) (show ¬ (16 : Int32) ≤ nI j from nI_ge (by omega) (by decide))) (fun c1 => ?_)
    refine zk_T.adv 4 (f' := (15, [(0, .ref 76), (1, .int 0), (2, .ref 79), (3, .int (nI b)), (4, .int 16), (5, .int (nI j))], [.int ((nI b) + (nI j)), .ref 79])) (h' := zH (zb v 78 to) w t) rfl ?_
    rw [show (nI b) + (nI j) = nI (b + j) from nI_add b j]
    refine zk_T.adv 4 (f' := (20, [(0, .ref 76), (1, .int 0), (2, .ref 79), (3, .int (nI b)), (4, .int 16), (5, .int (nI j))], [.int (0 + (nI j)), .ref 76, .int (nI (b + j)), .ref 79])) (h' := zH (zb v 78 to) w t) rfl ?_
    rw [show 0 + (nI j) = nI (0 + j) from nI_add 0 j]
    refine zk_T.ob (f' := (21, [(0, .ref 76), (1, .int 0), (2, .ref 79), (3, .int (nI b)), (4, .int 16), (5, .int (nI j))], [.int (v 75 (nI (0 + j)).toNatClampNeg), .int (nI (b + j)), .ref 79])) (h' := zH (zb v 78 to) w t) rfl (by first | exact zk_inN (by omega) (by decide) | decide) ?_
    rw [nI_clamp (show (0 + j) < 2 ^ 31 by omega)]
    refine zk_T.ob (f' := (22, [(0, .ref 76), (1, .int 0), (2, .ref 79), (3, .int (nI b)), (4, .int 16), (5, .int (nI j))], [])) (h' := zH (zb v 78 (upd to (nI (b + j)).toNatClampNeg (v 75 (0 + j)))) w t) rfl (by first | exact zk_inN (by omega) (by decide) | decide) ?_
    rw [nI_clamp (show (b + j) < 2 ^ 31 by omega)]
    refine zk_T.adv 2 (f' := (3, [(0, .ref 76), (1, .int 0), (2, .ref 79), (3, .int (nI b)), (4, .int 16), (5, .int ((nI j) + 1))], [])) (h' := zH (zb v 78 (upd to (b + j) (v 75 (0 + j)))) w t) rfl ?_
    rw [nI_1]
    simp only [zl_cpSkG] at hk
    exact hk
  · have hz := True.intro
    obtain ⟨to, rfl⟩ : ∃ z, z = s := ⟨_, rfl⟩
    show zk_T zk_mt zk_ex Ls xs zm_43 (3, [(0, .ref 76), (1, .int 0), (2, .ref 79), (3, .int (nI b)), (4, .int 16), (5, .int (nI (0 + 16)))], []) (zH (zb v 78 to) w t) q
    refine zk_T.adv 2 (f' := (7, [(0, .ref 76), (1, .int 0), (2, .ref 79), (3, .int (nI b)), (4, .int 16), (5, .int (nI (0 + 16)))], [.int 16, .int (nI (0 + 16))])) (h' := zH (zb v 78 to) w t) rfl ?_
    refine zk_T.br (f1 := (28, [(0, .ref 76), (1, .int 0), (2, .ref 79), (3, .int (nI b)), (4, .int 16), (5, .int (nI (0 + 16)))], [])) (f2 := (10, [(0, .ref 76), (1, .int 0), (2, .ref 79), (3, .int (nI b)), (4, .int 16), (5, .int (nI (0 + 16)))], [])) rfl (fun c1 => ?_) (fun c1 => absurd (show (16 : Int32) ≤ nI (0 + 16) from by decide) (of_decide_eq_false c1))
    exact hk
  · exact trivial
def zr_cpSk (fr to : Nat → Int32) (b : Nat) : (Nat → Int32) := zf (zl_cpSkG (fr) b) 16 0 (to)
/-- BasketKeepModel.copy -/
theorem zs_cpSk (b : Nat) (hb : b + 16 ≤ 48) : zk_Cr zk_mt zk_ex Ls xs 43 [.ref 76, .int 0, .ref 79, .int (nI b), .int 16] (zH v w t) (none, zH (zb v 78 (zr_cpSk (v 75) (v 78) b)) w t) := by
  refine zk_Cr.of (K := zm_43) rfl rfl rfl ?_
  show zk_T zk_mt zk_ex Ls xs zm_43 (0, [(0, .ref 76), (1, .int 0), (2, .ref 79), (3, .int (nI b)), (4, .int 16)], []) (zH v w t) _
  refine zk_T.adv 2 (f' := (3, [(0, .ref 76), (1, .int 0), (2, .ref 79), (3, .int (nI b)), (4, .int 16), (5, .int 0)], [])) (h' := zH v w t) rfl ?_
  refine zl_cpSk (v := v) (w := w) (t := t) b hb (v 78) _ ?_
  show zk_T zk_mt zk_ex Ls xs zm_43 (28, [(0, .ref 76), (1, .int 0), (2, .ref 79), (3, .int (nI b)), (4, .int 16), (5, .int (nI (0 + 16)))], []) (zH (zb v 78 (zf (zl_cpSkG (v 75) b) 16 0 (v 78))) w t) _
  exact zk_T.rt rfl rfl (by simp only [zr_cpSk] <;> rfl)
def zl_cpKsG (fr : Nat → Int32) (b : Nat) (j : Nat) (s : (Nat → Int32)) : (Nat → Int32) := match s with
  | to => upd to (0 + j) (fr (b + j))
theorem zl_cpKs (b : Nat) (hb : b + 16 ≤ 48) : ∀ (s : (Nat → Int32)) (q : Option Value × zk_H), zk_T zk_mt zk_ex Ls xs zm_43 ((fun (s : (Nat → Int32)) => ((28, [(0, .ref 79), (1, .int (nI b)), (2, .ref 76), (3, .int 0), (4, .int 16), (5, .int (nI (0 + 16)))], []) : zk_F)) (zf (zl_cpKsG (v 78) b) 16 0 s)) ((fun (s : (Nat → Int32)) => zH (zb v 75 s) w t) (zf (zl_cpKsG (v 78) b) 16 0 s)) q → zk_T zk_mt zk_ex Ls xs zm_43 (3, [(0, .ref 79), (1, .int (nI b)), (2, .ref 76), (3, .int 0), (4, .int 16), (5, .int (nI 0))], []) (zH (zb v 75 s) w t) q := by
  intro s q hk
  refine zk_forK (M := zm_43) (fun j (s : (Nat → Int32)) => (3, [(0, .ref 79), (1, .int (nI b)), (2, .ref 76), (3, .int 0), (4, .int 16), (5, .int (nI j))], [])) (fun _ (s : (Nat → Int32)) => zH (zb v 75 s) w t) (zl_cpKsG (v 78) b) (fun _ _ => True) (fun (s : (Nat → Int32)) => (28, [(0, .ref 79), (1, .int (nI b)), (2, .ref 76), (3, .int 0), (4, .int 16), (5, .int (nI (0 + 16)))], [])) (fun (s : (Nat → Int32)) => zH (zb v 75 s) w t) (16) 0 s (fun _ _ _ _ _ => trivial) (fun j s hj1 hj2 hp q hk => ?_) (fun s hp q hk => ?_) ?_ q hk
  · have hz := True.intro
    obtain ⟨to, rfl⟩ : ∃ z, z = s := ⟨_, rfl⟩
    show zk_T zk_mt zk_ex Ls xs zm_43 (3, [(0, .ref 79), (1, .int (nI b)), (2, .ref 76), (3, .int 0), (4, .int 16), (5, .int (nI j))], []) (zH (zb v 75 to) w t) q
    refine zk_T.adv 2 (f' := (7, [(0, .ref 79), (1, .int (nI b)), (2, .ref 76), (3, .int 0), (4, .int 16), (5, .int (nI j))], [.int 16, .int (nI j)])) (h' := zH (zb v 75 to) w t) rfl ?_
    refine zk_T.br (f1 := (28, [(0, .ref 79), (1, .int (nI b)), (2, .ref 76), (3, .int 0), (4, .int 16), (5, .int (nI j))], [])) (f2 := (10, [(0, .ref 79), (1, .int (nI b)), (2, .ref 76), (3, .int 0), (4, .int 16), (5, .int (nI j))], [])) rfl (fun c1 => absurd (of_decide_eq_true c1) (show ¬ (16 : Int32) ≤ nI j from nI_ge (by omega) (by decide))) (fun c1 => ?_)
    refine zk_T.adv 4 (f' := (15, [(0, .ref 79), (1, .int (nI b)), (2, .ref 76), (3, .int 0), (4, .int 16), (5, .int (nI j))], [.int (0 + (nI j)), .ref 76])) (h' := zH (zb v 75 to) w t) rfl ?_
    rw [show 0 + (nI j) = nI (0 + j) from nI_add 0 j]
    refine zk_T.adv 4 (f' := (20, [(0, .ref 79), (1, .int (nI b)), (2, .ref 76), (3, .int 0), (4, .int 16), (5, .int (nI j))], [.int ((nI b) + (nI j)), .ref 79, .int (nI (0 + j)), .ref 76])) (h' := zH (zb v 75 to) w t) rfl ?_
    rw [show (nI b) + (nI j) = nI (b + j) from nI_add b j]
    refine zk_T.ob (f' := (21, [(0, .ref 79), (1, .int (nI b)), (2, .ref 76), (3, .int 0), (4, .int 16), (5, .int (nI j))], [.int (v 78 (nI (b + j)).toNatClampNeg), .int (nI (0 + j)), .ref 76])) (h' := zH (zb v 75 to) w t) rfl (by first | exact zk_inN (by omega) (by decide) | decide) ?_
    rw [nI_clamp (show (b + j) < 2 ^ 31 by omega)]
    refine zk_T.ob (f' := (22, [(0, .ref 79), (1, .int (nI b)), (2, .ref 76), (3, .int 0), (4, .int 16), (5, .int (nI j))], [])) (h' := zH (zb v 75 (upd to (nI (0 + j)).toNatClampNeg (v 78 (b + j)))) w t) rfl (by first | exact zk_inN (by omega) (by decide) | decide) ?_
    rw [nI_clamp (show (0 + j) < 2 ^ 31 by omega)]
    refine zk_T.adv 2 (f' := (3, [(0, .ref 79), (1, .int (nI b)), (2, .ref 76), (3, .int 0), (4, .int 16), (5, .int ((nI j) + 1))], [])) (h' := zH (zb v 75 (upd to (0 + j) (v 78 (b + j)))) w t) rfl ?_
    rw [nI_1]
    simp only [zl_cpKsG] at hk
    exact hk
  · have hz := True.intro
    obtain ⟨to, rfl⟩ : ∃ z, z = s := ⟨_, rfl⟩
    show zk_T zk_mt zk_ex Ls xs zm_43 (3, [(0, .ref 79), (1, .int (nI b)), (2, .ref 76), (3, .int 0), (4, .int 16), (5, .int (nI (0 + 16)))], []) (zH (zb v 75 to) w t) q
    refine zk_T.adv 2 (f' := (7, [(0, .ref 79), (1, .int (nI b)), (2, .ref 76), (3, .int 0), (4, .int 16), (5, .int (nI (0 + 16)))], [.int 16, .int (nI (0 + 16))])) (h' := zH (zb v 75 to) w t) rfl ?_
    refine zk_T.br (f1 := (28, [(0, .ref 79), (1, .int (nI b)), (2, .ref 76), (3, .int 0), (4, .int 16), (5, .int (nI (0 + 16)))], [])) (f2 := (10, [(0, .ref 79), (1, .int (nI b)), (2, .ref 76), (3, .int 0), (4, .int 16), (5, .int (nI (0 + 16)))], [])) rfl (fun c1 => ?_) (fun c1 => absurd (show (16 : Int32) ≤ nI (0 + 16) from by decide) (of_decide_eq_false c1))
    exact hk
  · exact trivial
def zr_cpKs (fr to : Nat → Int32) (b : Nat) : (Nat → Int32) := zf (zl_cpKsG (fr) b) 16 0 (to)
/-- BasketKeepModel.copy -/
theorem zs_cpKs (b : Nat) (hb : b + 16 ≤ 48) : zk_Cr zk_mt zk_ex Ls xs 43 [.ref 79, .int (nI b), .ref 76, .int 0, .int 16] (zH v w t) (none, zH (zb v 75 (zr_cpKs (v 78) (v 75) b)) w t) := by
  refine zk_Cr.of (K := zm_43) rfl rfl rfl ?_
  show zk_T zk_mt zk_ex Ls xs zm_43 (0, [(0, .ref 79), (1, .int (nI b)), (2, .ref 76), (3, .int 0), (4, .int 16)], []) (zH v w t) _
  refine zk_T.adv 2 (f' := (3, [(0, .ref 79), (1, .int (nI b)), (2, .ref 76), (3, .int 0), (4, .int 16), (5, .int 0)], [])) (h' := zH v w t) rfl ?_
  refine zl_cpKs (v := v) (w := w) (t := t) b hb (v 75) _ ?_
  show zk_T zk_mt zk_ex Ls xs zm_43 (28, [(0, .ref 79), (1, .int (nI b)), (2, .ref 76), (3, .int 0), (4, .int 16), (5, .int (nI (0 + 16)))], []) (zH (zb v 75 (zf (zl_cpKsG (v 78) b) 16 0 (v 75))) w t) _
  exact zk_T.rt rfl rfl (by simp only [zr_cpKs] <;> rfl)
def zl_mbDG  (j : Nat) (s : (Nat → Int32)) : (Nat → Int32) := match s with
  | lt => upd lt j 0
theorem zl_mbD  : ∀ (s : (Nat → Int32)) (q : Option Value × zk_H), zk_T zk_mt zk_ex Ls xs zm_110 ((fun (s : (Nat → Int32)) => ((45, [(0, .ref 69), (1, .int (nI (0 + 8)))], []) : zk_F)) (zf (zl_mbDG ) 8 0 s)) ((fun (s : (Nat → Int32)) => zH (zb v 80 s) w t) (zf (zl_mbDG ) 8 0 s)) q → zk_T zk_mt zk_ex Ls xs zm_110 (26, [(0, .ref 69), (1, .int (nI 0))], []) (zH (zb v 80 s) w t) q := by
  intro s q hk
  refine zk_forK (M := zm_110) (fun j (s : (Nat → Int32)) => (26, [(0, .ref 69), (1, .int (nI j))], [])) (fun _ (s : (Nat → Int32)) => zH (zb v 80 s) w t) (zl_mbDG ) (fun _ _ => True) (fun (s : (Nat → Int32)) => (45, [(0, .ref 69), (1, .int (nI (0 + 8)))], [])) (fun (s : (Nat → Int32)) => zH (zb v 80 s) w t) (8) 0 s (fun _ _ _ _ _ => trivial) (fun j s hj1 hj2 hp q hk => ?_) (fun s hp q hk => ?_) ?_ q hk
  · have hz := True.intro
    obtain ⟨lt, rfl⟩ : ∃ z, z = s := ⟨_, rfl⟩
    show zk_T zk_mt zk_ex Ls xs zm_110 (26, [(0, .ref 69), (1, .int (nI j))], []) (zH (zb v 80 lt) w t) q
    refine zk_T.adv 2 (f' := (29, [(0, .ref 69), (1, .int (nI j))], [.int 8, .int (nI j)])) (h' := zH (zb v 80 lt) w t) rfl ?_
    refine zk_T.br (f1 := (45, [(0, .ref 69), (1, .int (nI j))], [])) (f2 := (32, [(0, .ref 69), (1, .int (nI j))], [])) rfl (fun c1 => absurd (of_decide_eq_true c1) (show ¬ 8 ≤ nI j from nI_ge (by omega) (by decide))) (fun c1 => ?_)
    refine zk_T.adv 4 (f' := (38, [(0, .ref 69), (1, .int (nI j))], [.int 0, .int (nI j), .ref 81])) (h' := zH (zb v 80 lt) w t) rfl ?_
    refine zk_T.ob (f' := (39, [(0, .ref 69), (1, .int (nI j))], [])) (h' := zH (zb v 80 (upd lt (nI j).toNatClampNeg 0)) w t) rfl (by first | exact zk_inN (by omega) (by decide) | decide) ?_
    rw [nI_clamp (show j < 2 ^ 31 by omega)]
    refine zk_T.adv 2 (f' := (26, [(0, .ref 69), (1, .int ((nI j) + 1))], [])) (h' := zH (zb v 80 (upd lt j 0)) w t) rfl ?_
    rw [nI_1]
    simp only [zl_mbDG] at hk
    exact hk
  · have hz := True.intro
    obtain ⟨lt, rfl⟩ : ∃ z, z = s := ⟨_, rfl⟩
    show zk_T zk_mt zk_ex Ls xs zm_110 (26, [(0, .ref 69), (1, .int (nI (0 + 8)))], []) (zH (zb v 80 lt) w t) q
    refine zk_T.adv 2 (f' := (29, [(0, .ref 69), (1, .int (nI (0 + 8)))], [.int 8, .int (nI (0 + 8))])) (h' := zH (zb v 80 lt) w t) rfl ?_
    refine zk_T.br (f1 := (45, [(0, .ref 69), (1, .int (nI (0 + 8)))], [])) (f2 := (32, [(0, .ref 69), (1, .int (nI (0 + 8)))], [])) rfl (fun c1 => ?_) (fun c1 => absurd (by decide) (of_decide_eq_false c1))
    exact hk
  · exact trivial
def zl_mbMG  (j : Nat) (s : (Nat → Int32)) : (Nat → Int32) := match s with
  | oo => upd oo j 0
theorem zl_mbM  : ∀ (s : (Nat → Int32)) (q : Option Value × zk_H), zk_T zk_mt zk_ex Ls xs zm_110 ((fun (s : (Nat → Int32)) => ((65, [(0, .ref 69), (1, .int (nI (0 + 5)))], []) : zk_F)) (zf (zl_mbMG ) 5 0 s)) ((fun (s : (Nat → Int32)) => zH (zb v 82 s) w t) (zf (zl_mbMG ) 5 0 s)) q → zk_T zk_mt zk_ex Ls xs zm_110 (47, [(0, .ref 69), (1, .int (nI 0))], []) (zH (zb v 82 s) w t) q := by
  intro s q hk
  refine zk_forK (M := zm_110) (fun j (s : (Nat → Int32)) => (47, [(0, .ref 69), (1, .int (nI j))], [])) (fun _ (s : (Nat → Int32)) => zH (zb v 82 s) w t) (zl_mbMG ) (fun _ _ => True) (fun (s : (Nat → Int32)) => (65, [(0, .ref 69), (1, .int (nI (0 + 5)))], [])) (fun (s : (Nat → Int32)) => zH (zb v 82 s) w t) (5) 0 s (fun _ _ _ _ _ => trivial) (fun j s hj1 hj2 hp q hk => ?_) (fun s hp q hk => ?_) ?_ q hk
  · have hz := True.intro
    obtain ⟨oo, rfl⟩ : ∃ z, z = s := ⟨_, rfl⟩
    show zk_T zk_mt zk_ex Ls xs zm_110 (47, [(0, .ref 69), (1, .int (nI j))], []) (zH (zb v 82 oo) w t) q
    refine zk_T.adv 2 (f' := (49, [(0, .ref 69), (1, .int (nI j))], [.int 5, .int (nI j)])) (h' := zH (zb v 82 oo) w t) rfl ?_
    refine zk_T.br (f1 := (65, [(0, .ref 69), (1, .int (nI j))], [])) (f2 := (52, [(0, .ref 69), (1, .int (nI j))], [])) rfl (fun c1 => absurd (of_decide_eq_true c1) (show ¬ 5 ≤ nI j from nI_ge (by omega) (by decide))) (fun c1 => ?_)
    refine zk_T.adv 4 (f' := (58, [(0, .ref 69), (1, .int (nI j))], [.int 0, .int (nI j), .ref 83])) (h' := zH (zb v 82 oo) w t) rfl ?_
    refine zk_T.ob (f' := (59, [(0, .ref 69), (1, .int (nI j))], [])) (h' := zH (zb v 82 (upd oo (nI j).toNatClampNeg 0)) w t) rfl (by first | exact zk_inN (by omega) (by decide) | decide) ?_
    rw [nI_clamp (show j < 2 ^ 31 by omega)]
    refine zk_T.adv 2 (f' := (47, [(0, .ref 69), (1, .int ((nI j) + 1))], [])) (h' := zH (zb v 82 (upd oo j 0)) w t) rfl ?_
    rw [nI_1]
    simp only [zl_mbMG] at hk
    exact hk
  · have hz := True.intro
    obtain ⟨oo, rfl⟩ : ∃ z, z = s := ⟨_, rfl⟩
    show zk_T zk_mt zk_ex Ls xs zm_110 (47, [(0, .ref 69), (1, .int (nI (0 + 5)))], []) (zH (zb v 82 oo) w t) q
    refine zk_T.adv 2 (f' := (49, [(0, .ref 69), (1, .int (nI (0 + 5)))], [.int 5, .int (nI (0 + 5))])) (h' := zH (zb v 82 oo) w t) rfl ?_
    refine zk_T.br (f1 := (65, [(0, .ref 69), (1, .int (nI (0 + 5)))], [])) (f2 := (52, [(0, .ref 69), (1, .int (nI (0 + 5)))], [])) rfl (fun c1 => ?_) (fun c1 => absurd (by decide) (of_decide_eq_false c1))
    exact hk
  · exact trivial
def zl_mbGG  (j : Nat) (s : (Nat → Int32)) : (Nat → Int32) := match s with
  | lw => upd lw j (-2)
theorem zl_mbG  : ∀ (s : (Nat → Int32)) (q : Option Value × zk_H), zk_T zk_mt zk_ex Ls xs zm_110 ((fun (s : (Nat → Int32)) => ((86, [(0, .ref 69), (1, .int (nI (0 + 4)))], []) : zk_F)) (zf (zl_mbGG ) 4 0 s)) ((fun (s : (Nat → Int32)) => zH (zb v 81 s) w t) (zf (zl_mbGG ) 4 0 s)) q → zk_T zk_mt zk_ex Ls xs zm_110 (67, [(0, .ref 69), (1, .int (nI 0))], []) (zH (zb v 81 s) w t) q := by
  intro s q hk
  refine zk_forK (M := zm_110) (fun j (s : (Nat → Int32)) => (67, [(0, .ref 69), (1, .int (nI j))], [])) (fun _ (s : (Nat → Int32)) => zH (zb v 81 s) w t) (zl_mbGG ) (fun _ _ => True) (fun (s : (Nat → Int32)) => (86, [(0, .ref 69), (1, .int (nI (0 + 4)))], [])) (fun (s : (Nat → Int32)) => zH (zb v 81 s) w t) (4) 0 s (fun _ _ _ _ _ => trivial) (fun j s hj1 hj2 hp q hk => ?_) (fun s hp q hk => ?_) ?_ q hk
  · have hz := True.intro
    obtain ⟨lw, rfl⟩ : ∃ z, z = s := ⟨_, rfl⟩
    show zk_T zk_mt zk_ex Ls xs zm_110 (67, [(0, .ref 69), (1, .int (nI j))], []) (zH (zb v 81 lw) w t) q
    refine zk_T.adv 2 (f' := (69, [(0, .ref 69), (1, .int (nI j))], [.int 4, .int (nI j)])) (h' := zH (zb v 81 lw) w t) rfl ?_
    refine zk_T.br (f1 := (86, [(0, .ref 69), (1, .int (nI j))], [])) (f2 := (72, [(0, .ref 69), (1, .int (nI j))], [])) rfl (fun c1 => absurd (of_decide_eq_true c1) (show ¬ 4 ≤ nI j from nI_ge (by omega) (by decide))) (fun c1 => ?_)
    refine zk_T.adv 4 (f' := (79, [(0, .ref 69), (1, .int (nI j))], [.int (-2), .int (nI j), .ref 82])) (h' := zH (zb v 81 lw) w t) rfl ?_
    refine zk_T.ob (f' := (80, [(0, .ref 69), (1, .int (nI j))], [])) (h' := zH (zb v 81 (upd lw (nI j).toNatClampNeg (-2))) w t) rfl (by first | exact zk_inN (by omega) (by decide) | decide) ?_
    rw [nI_clamp (show j < 2 ^ 31 by omega)]
    refine zk_T.adv 2 (f' := (67, [(0, .ref 69), (1, .int ((nI j) + 1))], [])) (h' := zH (zb v 81 (upd lw j (-2))) w t) rfl ?_
    rw [nI_1]
    simp only [zl_mbGG] at hk
    exact hk
  · have hz := True.intro
    obtain ⟨lw, rfl⟩ : ∃ z, z = s := ⟨_, rfl⟩
    show zk_T zk_mt zk_ex Ls xs zm_110 (67, [(0, .ref 69), (1, .int (nI (0 + 4)))], []) (zH (zb v 81 lw) w t) q
    refine zk_T.adv 2 (f' := (69, [(0, .ref 69), (1, .int (nI (0 + 4)))], [.int 4, .int (nI (0 + 4))])) (h' := zH (zb v 81 lw) w t) rfl ?_
    refine zk_T.br (f1 := (86, [(0, .ref 69), (1, .int (nI (0 + 4)))], [])) (f2 := (72, [(0, .ref 69), (1, .int (nI (0 + 4)))], [])) rfl (fun c1 => ?_) (fun c1 => absurd (by decide) (of_decide_eq_false c1))
    exact hk
  · exact trivial
def zr_mbegin (st row lt lw oo slp : Nat → Int32) : (Nat → Int32) × Int32 × (Nat → Int32) × (Nat → Int32) × (Nat → Int32) × (Nat → Int32) := ((zr_cpSt (st) (row)), 0, zf (zl_mbDG ) 8 0 (lt), zf (zl_mbGG ) 4 0 (lw), zf (zl_mbMG ) 5 0 (oo), (zr_mnoSlips (slp)))
/-- BasketKeepModel.begin -/
theorem zs_mbegin  : zk_Cr zk_mt zk_ex Ls xs 110 [.ref 69] (zH v w t) (none, zH (zb (zb (zb (zb (zb (zb v 68 (upd (v 68) 26 ((zr_mbegin (v 75) (v 76) (v 80) (v 81) (v 82) (v 79)).2.1))) 76 ((zr_mbegin (v 75) (v 76) (v 80) (v 81) (v 82) (v 79)).1)) 79 ((zr_mbegin (v 75) (v 76) (v 80) (v 81) (v 82) (v 79)).2.2.2.2.2)) 80 ((zr_mbegin (v 75) (v 76) (v 80) (v 81) (v 82) (v 79)).2.2.1)) 81 ((zr_mbegin (v 75) (v 76) (v 80) (v 81) (v 82) (v 79)).2.2.2.1)) 82 ((zr_mbegin (v 75) (v 76) (v 80) (v 81) (v 82) (v 79)).2.2.2.2.1)) w t) := by
  refine zk_Cr.of (K := zm_110) rfl rfl rfl ?_
  show zk_T zk_mt zk_ex Ls xs zm_110 (0, [(0, .ref 69)], []) (zH v w t) _
  refine zk_T.adv 1 (f' := (1, [(0, .ref 69)], [.ref 69])) (h' := zH v w t) rfl ?_
  refine zk_T.cl (v := none) (h' := zH (zb v 79 (zr_mnoSlips (v 79))) w t) rfl (zs_mnoSlips (v := v)) ?_
  show zk_T zk_mt zk_ex Ls xs zm_110 (4, [(0, .ref 69)], []) (zH (zb v 79 (zr_mnoSlips (v 79))) w t) _
  refine zk_T.adv 7 (f' := (16, [(0, .ref 69)], [.int 16, .int 0, .ref 77, .int 0, .ref 76])) (h' := zH (zb v 79 (zr_mnoSlips (v 79))) w t) rfl ?_
  refine zk_T.cl (v := none) (h' := zH (zb (zb v 76 (zr_cpSt (v 75) (v 76))) 79 (zr_mnoSlips (v 79))) w t) rfl (zs_cpSt (v := (zb v 79 (zr_mnoSlips (v 79)))) (w := w)) ?_
  show zk_T zk_mt zk_ex Ls xs zm_110 (19, [(0, .ref 69)], []) (zH (zb (zb v 76 (zr_cpSt (v 75) (v 76))) 79 (zr_mnoSlips (v 79))) w t) _
  refine zk_T.adv 5 (f' := (26, [(0, .ref 69), (1, .int 0)], [])) (h' := zH (zb (zb (zb v 68 (upd (v 68) 26 0)) 76 (zr_cpSt (v 75) (v 76))) 79 (zr_mnoSlips (v 79))) w t) rfl ?_
  refine zl_mbD (v := (zb (zb (zb v 68 (upd (v 68) 26 0)) 76 (zr_cpSt (v 75) (v 76))) 79 (zr_mnoSlips (v 79)))) (w := w) (t := t) (v 80) _ ?_
  show zk_T zk_mt zk_ex Ls xs zm_110 (45, [(0, .ref 69), (1, .int (nI (0 + 8)))], []) (zH (zb (zb (zb (zb v 68 (upd (v 68) 26 0)) 76 (zr_cpSt (v 75) (v 76))) 79 (zr_mnoSlips (v 79))) 80 (zf (zl_mbDG ) 8 0 (v 80))) w t) _
  refine zk_T.adv 2 (f' := (47, [(0, .ref 69), (1, .int 0)], [])) (h' := zH (zb (zb (zb (zb v 68 (upd (v 68) 26 0)) 76 (zr_cpSt (v 75) (v 76))) 79 (zr_mnoSlips (v 79))) 80 (zf (zl_mbDG ) 8 0 (v 80))) w t) rfl ?_
  refine zl_mbM (v := (zb (zb (zb (zb v 68 (upd (v 68) 26 0)) 76 (zr_cpSt (v 75) (v 76))) 79 (zr_mnoSlips (v 79))) 80 (zf (zl_mbDG ) 8 0 (v 80)))) (w := w) (t := t) (v 82) _ ?_
  show zk_T zk_mt zk_ex Ls xs zm_110 (65, [(0, .ref 69), (1, .int (nI (0 + 5)))], []) (zH (zb (zb (zb (zb (zb v 68 (upd (v 68) 26 0)) 76 (zr_cpSt (v 75) (v 76))) 79 (zr_mnoSlips (v 79))) 80 (zf (zl_mbDG ) 8 0 (v 80))) 82 (zf (zl_mbMG ) 5 0 (v 82))) w t) _
  refine zk_T.adv 2 (f' := (67, [(0, .ref 69), (1, .int 0)], [])) (h' := zH (zb (zb (zb (zb (zb v 68 (upd (v 68) 26 0)) 76 (zr_cpSt (v 75) (v 76))) 79 (zr_mnoSlips (v 79))) 80 (zf (zl_mbDG ) 8 0 (v 80))) 82 (zf (zl_mbMG ) 5 0 (v 82))) w t) rfl ?_
  refine zl_mbG (v := (zb (zb (zb (zb (zb v 68 (upd (v 68) 26 0)) 76 (zr_cpSt (v 75) (v 76))) 79 (zr_mnoSlips (v 79))) 80 (zf (zl_mbDG ) 8 0 (v 80))) 82 (zf (zl_mbMG ) 5 0 (v 82)))) (w := w) (t := t) (v 81) _ ?_
  show zk_T zk_mt zk_ex Ls xs zm_110 (86, [(0, .ref 69), (1, .int (nI (0 + 4)))], []) (zH (zb (zb (zb (zb (zb (zb v 68 (upd (v 68) 26 0)) 76 (zr_cpSt (v 75) (v 76))) 79 (zr_mnoSlips (v 79))) 80 (zf (zl_mbDG ) 8 0 (v 80))) 81 (zf (zl_mbGG ) 4 0 (v 81))) 82 (zf (zl_mbMG ) 5 0 (v 82))) w t) _
  exact zk_T.rt rfl rfl (by simp only [zr_mbegin] <;> rfl)
theorem zl_cpSt_at (fr to : Nat → Int32) {n k : Nat} (hn : n ≤ 16) : ∀ i, (zf (zl_cpStG fr) n k to) i = if k ≤ i ∧ i < k + n then fr i else to i := by
  induction n generalizing k to with
  | zero => intro i; rw [if_neg (by omega)]; rfl
  | succ n ih =>
    intro i
    show zf (zl_cpStG fr) n (k + 1) (zl_cpStG fr k to) i = _
    rw [ih _ (by omega)]
    have e : zl_cpStG fr k to = upd to k (fr k) := by
      unfold zl_cpStG
      simp only [Nat.zero_add]
    rw [e]
    by_cases h : i = k
    · subst h
      rw [if_neg (by omega), if_pos (by omega), pk_us]
    · rw [pk_un h]
      by_cases h2 : k + 1 ≤ i ∧ i < k + 1 + n
      · rw [if_pos h2, if_pos (by omega)]
      · rw [if_neg h2, if_neg (by omega)]
theorem zr_mbegin_row (st row lt lw oo slp : Nat → Int32) {i : Nat} (hi : i < 16) : (zr_mbegin st row lt lw oo slp).1 i = st i := by
  show (zf (zl_cpStG st) 16 0 row) i = _
  rw [zl_cpSt_at _ _ (Nat.le_refl _), if_pos (by omega)]
theorem zk_lie_of {Gn : Nat} {f g : Nat → Int32} (h : zk_lie Gn g) (h4 : Gn ≤ 4) (e : ∀ i, i < 16 → f i = g i) : zk_lie Gn f := by
  intro a ha
  rw [e _ (by omega)]
  exact h a ha
theorem zr_mbegin_lie {Gn : Nat} {st row lt lw oo slp : Nat → Int32} (h : zk_lie Gn st) (h4 : Gn ≤ 4) : zk_lie Gn (zr_mbegin st row lt lw oo slp).1 := zk_lie_of h h4 (fun _ hi => zr_mbegin_row _ _ _ _ _ _ hi)
def zr_myears (n D Gn : Nat) (r st row lt lw oo slp : Nat → Int32) : (Nat → Int32) × Int32 × (Nat → Int32) × (Nat → Int32) × (Nat → Int32) × (Nat → Int32) := ((zr_mgo n D Gn (r) ((zr_mbegin (st) (row) (lt) (lw) (oo) (slp)).2.2.2.2.2) ((zr_mbegin (st) (row) (lt) (lw) (oo) (slp)).1) ((zr_mbegin (st) (row) (lt) (lw) (oo) (slp)).2.1) ((zr_mbegin (st) (row) (lt) (lw) (oo) (slp)).2.2.1) ((zr_mbegin (st) (row) (lt) (lw) (oo) (slp)).2.2.2.1) ((zr_mbegin (st) (row) (lt) (lw) (oo) (slp)).2.2.2.2.1)).1, (zr_mgo n D Gn (r) ((zr_mbegin (st) (row) (lt) (lw) (oo) (slp)).2.2.2.2.2) ((zr_mbegin (st) (row) (lt) (lw) (oo) (slp)).1) ((zr_mbegin (st) (row) (lt) (lw) (oo) (slp)).2.1) ((zr_mbegin (st) (row) (lt) (lw) (oo) (slp)).2.2.1) ((zr_mbegin (st) (row) (lt) (lw) (oo) (slp)).2.2.2.1) ((zr_mbegin (st) (row) (lt) (lw) (oo) (slp)).2.2.2.2.1)).2.1, (zr_mgo n D Gn (r) ((zr_mbegin (st) (row) (lt) (lw) (oo) (slp)).2.2.2.2.2) ((zr_mbegin (st) (row) (lt) (lw) (oo) (slp)).1) ((zr_mbegin (st) (row) (lt) (lw) (oo) (slp)).2.1) ((zr_mbegin (st) (row) (lt) (lw) (oo) (slp)).2.2.1) ((zr_mbegin (st) (row) (lt) (lw) (oo) (slp)).2.2.2.1) ((zr_mbegin (st) (row) (lt) (lw) (oo) (slp)).2.2.2.2.1)).2.2.1, (zr_mgo n D Gn (r) ((zr_mbegin (st) (row) (lt) (lw) (oo) (slp)).2.2.2.2.2) ((zr_mbegin (st) (row) (lt) (lw) (oo) (slp)).1) ((zr_mbegin (st) (row) (lt) (lw) (oo) (slp)).2.1) ((zr_mbegin (st) (row) (lt) (lw) (oo) (slp)).2.2.1) ((zr_mbegin (st) (row) (lt) (lw) (oo) (slp)).2.2.2.1) ((zr_mbegin (st) (row) (lt) (lw) (oo) (slp)).2.2.2.2.1)).2.2.2.1, (zr_mgo n D Gn (r) ((zr_mbegin (st) (row) (lt) (lw) (oo) (slp)).2.2.2.2.2) ((zr_mbegin (st) (row) (lt) (lw) (oo) (slp)).1) ((zr_mbegin (st) (row) (lt) (lw) (oo) (slp)).2.1) ((zr_mbegin (st) (row) (lt) (lw) (oo) (slp)).2.2.1) ((zr_mbegin (st) (row) (lt) (lw) (oo) (slp)).2.2.2.1) ((zr_mbegin (st) (row) (lt) (lw) (oo) (slp)).2.2.2.2.1)).2.2.2.2, (zr_mbegin (st) (row) (lt) (lw) (oo) (slp)).2.2.2.2.2)
/-- BasketKeepModel.yearsOn -/
theorem zs_myearsOn (n : Nat) (hn : n < 2 ^ 31) (D : Nat) (hD : v 71 1 = nI D) (h8 : D ≤ 8) (Gn : Nat) (hG : v 71 3 = nI Gn) (h4 : Gn ≤ 4) (hev : ∀ d, d < D → ¬ v 71 (7 + 2 * d) = 0) (hli : zk_lie Gn (v 75)) : zk_Cr zk_mt zk_ex Ls xs 249 [.ref 69, .int (nI n)] (zH v w t) (none, zH (zb (zb (zb (zb (zb (zb v 68 (upd (v 68) 26 ((zr_myears n D Gn (v 71) (v 75) (v 76) (v 80) (v 81) (v 82) (v 79)).2.1))) 76 ((zr_myears n D Gn (v 71) (v 75) (v 76) (v 80) (v 81) (v 82) (v 79)).1)) 79 ((zr_myears n D Gn (v 71) (v 75) (v 76) (v 80) (v 81) (v 82) (v 79)).2.2.2.2.2)) 80 ((zr_myears n D Gn (v 71) (v 75) (v 76) (v 80) (v 81) (v 82) (v 79)).2.2.1)) 81 ((zr_myears n D Gn (v 71) (v 75) (v 76) (v 80) (v 81) (v 82) (v 79)).2.2.2.1)) 82 ((zr_myears n D Gn (v 71) (v 75) (v 76) (v 80) (v 81) (v 82) (v 79)).2.2.2.2.1)) w t) := by
  refine zk_Cr.of (K := zm_249) rfl rfl rfl ?_
  show zk_T zk_mt zk_ex Ls xs zm_249 (0, [(0, .ref 69), (1, .int (nI n))], []) (zH v w t) _
  refine zk_T.adv 1 (f' := (1, [(0, .ref 69), (1, .int (nI n))], [.ref 69])) (h' := zH v w t) rfl ?_
  refine zk_T.cl (v := none) (h' := zH (zb (zb (zb (zb (zb (zb v 68 (upd (v 68) 26 ((zr_mbegin (v 75) (v 76) (v 80) (v 81) (v 82) (v 79)).2.1))) 76 ((zr_mbegin (v 75) (v 76) (v 80) (v 81) (v 82) (v 79)).1)) 79 ((zr_mbegin (v 75) (v 76) (v 80) (v 81) (v 82) (v 79)).2.2.2.2.2)) 80 ((zr_mbegin (v 75) (v 76) (v 80) (v 81) (v 82) (v 79)).2.2.1)) 81 ((zr_mbegin (v 75) (v 76) (v 80) (v 81) (v 82) (v 79)).2.2.2.1)) 82 ((zr_mbegin (v 75) (v 76) (v 80) (v 81) (v 82) (v 79)).2.2.2.2.1)) w t) rfl (zs_mbegin (v := v) (w := w)) ?_
  show zk_T zk_mt zk_ex Ls xs zm_249 (4, [(0, .ref 69), (1, .int (nI n))], []) (zH (zb (zb (zb (zb (zb (zb v 68 (upd (v 68) 26 ((zr_mbegin (v 75) (v 76) (v 80) (v 81) (v 82) (v 79)).2.1))) 76 ((zr_mbegin (v 75) (v 76) (v 80) (v 81) (v 82) (v 79)).1)) 79 ((zr_mbegin (v 75) (v 76) (v 80) (v 81) (v 82) (v 79)).2.2.2.2.2)) 80 ((zr_mbegin (v 75) (v 76) (v 80) (v 81) (v 82) (v 79)).2.2.1)) 81 ((zr_mbegin (v 75) (v 76) (v 80) (v 81) (v 82) (v 79)).2.2.2.1)) 82 ((zr_mbegin (v 75) (v 76) (v 80) (v 81) (v 82) (v 79)).2.2.2.2.1)) w t) _
  refine zk_T.adv 2 (f' := (6, [(0, .ref 69), (1, .int (nI n))], [.int (nI n), .ref 69])) (h' := zH (zb (zb (zb (zb (zb (zb v 68 (upd (v 68) 26 ((zr_mbegin (v 75) (v 76) (v 80) (v 81) (v 82) (v 79)).2.1))) 76 ((zr_mbegin (v 75) (v 76) (v 80) (v 81) (v 82) (v 79)).1)) 79 ((zr_mbegin (v 75) (v 76) (v 80) (v 81) (v 82) (v 79)).2.2.2.2.2)) 80 ((zr_mbegin (v 75) (v 76) (v 80) (v 81) (v 82) (v 79)).2.2.1)) 81 ((zr_mbegin (v 75) (v 76) (v 80) (v 81) (v 82) (v 79)).2.2.2.1)) 82 ((zr_mbegin (v 75) (v 76) (v 80) (v 81) (v 82) (v 79)).2.2.2.2.1)) w t) rfl ?_
  refine zk_T.cl (v := none) (h' := zH (zb (zb (zb (zb (zb (zb v 68 (upd (v 68) 26 ((zr_mgo n D Gn (v 71) ((zr_mbegin (v 75) (v 76) (v 80) (v 81) (v 82) (v 79)).2.2.2.2.2) ((zr_mbegin (v 75) (v 76) (v 80) (v 81) (v 82) (v 79)).1) ((zr_mbegin (v 75) (v 76) (v 80) (v 81) (v 82) (v 79)).2.1) ((zr_mbegin (v 75) (v 76) (v 80) (v 81) (v 82) (v 79)).2.2.1) ((zr_mbegin (v 75) (v 76) (v 80) (v 81) (v 82) (v 79)).2.2.2.1) ((zr_mbegin (v 75) (v 76) (v 80) (v 81) (v 82) (v 79)).2.2.2.2.1)).2.1))) 76 ((zr_mgo n D Gn (v 71) ((zr_mbegin (v 75) (v 76) (v 80) (v 81) (v 82) (v 79)).2.2.2.2.2) ((zr_mbegin (v 75) (v 76) (v 80) (v 81) (v 82) (v 79)).1) ((zr_mbegin (v 75) (v 76) (v 80) (v 81) (v 82) (v 79)).2.1) ((zr_mbegin (v 75) (v 76) (v 80) (v 81) (v 82) (v 79)).2.2.1) ((zr_mbegin (v 75) (v 76) (v 80) (v 81) (v 82) (v 79)).2.2.2.1) ((zr_mbegin (v 75) (v 76) (v 80) (v 81) (v 82) (v 79)).2.2.2.2.1)).1)) 79 ((zr_mbegin (v 75) (v 76) (v 80) (v 81) (v 82) (v 79)).2.2.2.2.2)) 80 ((zr_mgo n D Gn (v 71) ((zr_mbegin (v 75) (v 76) (v 80) (v 81) (v 82) (v 79)).2.2.2.2.2) ((zr_mbegin (v 75) (v 76) (v 80) (v 81) (v 82) (v 79)).1) ((zr_mbegin (v 75) (v 76) (v 80) (v 81) (v 82) (v 79)).2.1) ((zr_mbegin (v 75) (v 76) (v 80) (v 81) (v 82) (v 79)).2.2.1) ((zr_mbegin (v 75) (v 76) (v 80) (v 81) (v 82) (v 79)).2.2.2.1) ((zr_mbegin (v 75) (v 76) (v 80) (v 81) (v 82) (v 79)).2.2.2.2.1)).2.2.1)) 81 ((zr_mgo n D Gn (v 71) ((zr_mbegin (v 75) (v 76) (v 80) (v 81) (v 82) (v 79)).2.2.2.2.2) ((zr_mbegin (v 75) (v 76) (v 80) (v 81) (v 82) (v 79)).1) ((zr_mbegin (v 75) (v 76) (v 80) (v 81) (v 82) (v 79)).2.1) ((zr_mbegin (v 75) (v 76) (v 80) (v 81) (v 82) (v 79)).2.2.1) ((zr_mbegin (v 75) (v 76) (v 80) (v 81) (v 82) (v 79)).2.2.2.1) ((zr_mbegin (v 75) (v 76) (v 80) (v 81) (v 82) (v 79)).2.2.2.2.1)).2.2.2.1)) 82 ((zr_mgo n D Gn (v 71) ((zr_mbegin (v 75) (v 76) (v 80) (v 81) (v 82) (v 79)).2.2.2.2.2) ((zr_mbegin (v 75) (v 76) (v 80) (v 81) (v 82) (v 79)).1) ((zr_mbegin (v 75) (v 76) (v 80) (v 81) (v 82) (v 79)).2.1) ((zr_mbegin (v 75) (v 76) (v 80) (v 81) (v 82) (v 79)).2.2.1) ((zr_mbegin (v 75) (v 76) (v 80) (v 81) (v 82) (v 79)).2.2.2.1) ((zr_mbegin (v 75) (v 76) (v 80) (v 81) (v 82) (v 79)).2.2.2.2.1)).2.2.2.2)) w t) rfl (zs_mgoOn (v := (zb (zb (zb (zb (zb (zb v 68 (upd (v 68) 26 ((zr_mbegin (v 75) (v 76) (v 80) (v 81) (v 82) (v 79)).2.1))) 76 ((zr_mbegin (v 75) (v 76) (v 80) (v 81) (v 82) (v 79)).1)) 79 ((zr_mbegin (v 75) (v 76) (v 80) (v 81) (v 82) (v 79)).2.2.2.2.2)) 80 ((zr_mbegin (v 75) (v 76) (v 80) (v 81) (v 82) (v 79)).2.2.1)) 81 ((zr_mbegin (v 75) (v 76) (v 80) (v 81) (v 82) (v 79)).2.2.2.1)) 82 ((zr_mbegin (v 75) (v 76) (v 80) (v 81) (v 82) (v 79)).2.2.2.2.1))) n (by omega) D hD h8 Gn hG h4 hev (zr_mbegin_lie hli h4)) ?_
  show zk_T zk_mt zk_ex Ls xs zm_249 (9, [(0, .ref 69), (1, .int (nI n))], []) (zH (zb (zb (zb (zb (zb (zb v 68 (upd (v 68) 26 ((zr_mgo n D Gn (v 71) ((zr_mbegin (v 75) (v 76) (v 80) (v 81) (v 82) (v 79)).2.2.2.2.2) ((zr_mbegin (v 75) (v 76) (v 80) (v 81) (v 82) (v 79)).1) ((zr_mbegin (v 75) (v 76) (v 80) (v 81) (v 82) (v 79)).2.1) ((zr_mbegin (v 75) (v 76) (v 80) (v 81) (v 82) (v 79)).2.2.1) ((zr_mbegin (v 75) (v 76) (v 80) (v 81) (v 82) (v 79)).2.2.2.1) ((zr_mbegin (v 75) (v 76) (v 80) (v 81) (v 82) (v 79)).2.2.2.2.1)).2.1))) 76 ((zr_mgo n D Gn (v 71) ((zr_mbegin (v 75) (v 76) (v 80) (v 81) (v 82) (v 79)).2.2.2.2.2) ((zr_mbegin (v 75) (v 76) (v 80) (v 81) (v 82) (v 79)).1) ((zr_mbegin (v 75) (v 76) (v 80) (v 81) (v 82) (v 79)).2.1) ((zr_mbegin (v 75) (v 76) (v 80) (v 81) (v 82) (v 79)).2.2.1) ((zr_mbegin (v 75) (v 76) (v 80) (v 81) (v 82) (v 79)).2.2.2.1) ((zr_mbegin (v 75) (v 76) (v 80) (v 81) (v 82) (v 79)).2.2.2.2.1)).1)) 79 ((zr_mbegin (v 75) (v 76) (v 80) (v 81) (v 82) (v 79)).2.2.2.2.2)) 80 ((zr_mgo n D Gn (v 71) ((zr_mbegin (v 75) (v 76) (v 80) (v 81) (v 82) (v 79)).2.2.2.2.2) ((zr_mbegin (v 75) (v 76) (v 80) (v 81) (v 82) (v 79)).1) ((zr_mbegin (v 75) (v 76) (v 80) (v 81) (v 82) (v 79)).2.1) ((zr_mbegin (v 75) (v 76) (v 80) (v 81) (v 82) (v 79)).2.2.1) ((zr_mbegin (v 75) (v 76) (v 80) (v 81) (v 82) (v 79)).2.2.2.1) ((zr_mbegin (v 75) (v 76) (v 80) (v 81) (v 82) (v 79)).2.2.2.2.1)).2.2.1)) 81 ((zr_mgo n D Gn (v 71) ((zr_mbegin (v 75) (v 76) (v 80) (v 81) (v 82) (v 79)).2.2.2.2.2) ((zr_mbegin (v 75) (v 76) (v 80) (v 81) (v 82) (v 79)).1) ((zr_mbegin (v 75) (v 76) (v 80) (v 81) (v 82) (v 79)).2.1) ((zr_mbegin (v 75) (v 76) (v 80) (v 81) (v 82) (v 79)).2.2.1) ((zr_mbegin (v 75) (v 76) (v 80) (v 81) (v 82) (v 79)).2.2.2.1) ((zr_mbegin (v 75) (v 76) (v 80) (v 81) (v 82) (v 79)).2.2.2.2.1)).2.2.2.1)) 82 ((zr_mgo n D Gn (v 71) ((zr_mbegin (v 75) (v 76) (v 80) (v 81) (v 82) (v 79)).2.2.2.2.2) ((zr_mbegin (v 75) (v 76) (v 80) (v 81) (v 82) (v 79)).1) ((zr_mbegin (v 75) (v 76) (v 80) (v 81) (v 82) (v 79)).2.1) ((zr_mbegin (v 75) (v 76) (v 80) (v 81) (v 82) (v 79)).2.2.1) ((zr_mbegin (v 75) (v 76) (v 80) (v 81) (v 82) (v 79)).2.2.2.1) ((zr_mbegin (v 75) (v 76) (v 80) (v 81) (v 82) (v 79)).2.2.2.2.1)).2.2.2.2)) w t) _
  exact zk_T.rt rfl rfl (by simp only [zr_myears] <;> rfl)
def zl_mworthG (r row : Nat → Int32) (j : Nat) (s : Int32) : Int32 := match s with
  | a => if (zr_mhasBit (row 14) (nI j)) = 0 then a + (r (33 + (2 * j))) else a + 0
theorem zl_mworthT (Gn : Nat) (hG : v 71 3 = nI Gn) (h4 : Gn ≤ 4) : ∀ (s : Int32) (q : Option Value × zk_H), zk_T zk_mt zk_ex Ls xs zm_132 ((fun (s : Int32) => ((49, [(0, .ref 69), (1, .ref 77), (2, .int s), (3, .int (nI (0 + Gn)))], []) : zk_F)) (zf (zl_mworthG (v 71) (v 76)) Gn 0 s)) ((fun (s : Int32) => zH v w t) (zf (zl_mworthG (v 71) (v 76)) Gn 0 s)) q → zk_T zk_mt zk_ex Ls xs zm_132 (4, [(0, .ref 69), (1, .ref 77), (2, .int s), (3, .int (nI 0))], []) (zH v w t) q := by
  intro s q hk
  refine zk_forK (M := zm_132) (fun j (s : Int32) => (4, [(0, .ref 69), (1, .ref 77), (2, .int s), (3, .int (nI j))], [])) (fun _ (s : Int32) => zH v w t) (zl_mworthG (v 71) (v 76)) (fun _ _ => True) (fun (s : Int32) => (49, [(0, .ref 69), (1, .ref 77), (2, .int s), (3, .int (nI (0 + Gn)))], [])) (fun (s : Int32) => zH v w t) (Gn) 0 s (fun _ _ _ _ _ => trivial) (fun j s hj1 hj2 hp q hk => ?_) (fun s hp q hk => ?_) ?_ q hk
  · have hz := True.intro
    obtain ⟨a, rfl⟩ : ∃ z, z = s := ⟨_, rfl⟩
    show zk_T zk_mt zk_ex Ls xs zm_132 (4, [(0, .ref 69), (1, .ref 77), (2, .int a), (3, .int (nI j))], []) (zH v w t) q
    refine zk_T.adv 4 (f' := (10, [(0, .ref 69), (1, .ref 77), (2, .int a), (3, .int (nI j))], [.int 3, .ref 72, .int (nI j)])) (h' := zH v w t) rfl ?_
    refine zk_T.ob (f' := (11, [(0, .ref 69), (1, .ref 77), (2, .int a), (3, .int (nI j))], [.int (v 71 (3 : Int32).toNatClampNeg), .int (nI j)])) (h' := zH v w t) rfl rfl ?_
    show zk_T zk_mt zk_ex Ls xs zm_132 (11, [(0, .ref 69), (1, .ref 77), (2, .int a), (3, .int (nI j))], [.int (v 71 3), .int (nI j)]) (zH v w t) _
    refine zk_T.br (f1 := (49, [(0, .ref 69), (1, .ref 77), (2, .int a), (3, .int (nI j))], [])) (f2 := (14, [(0, .ref 69), (1, .ref 77), (2, .int a), (3, .int (nI j))], [])) rfl (fun c1 => absurd (of_decide_eq_true c1) (by rw [show _ = nI Gn from hG]; exact nI_ge (show j < Gn by omega) (by omega))) (fun c1 => ?_)
    refine zk_T.adv 3 (f' := (18, [(0, .ref 69), (1, .ref 77), (2, .int a), (3, .int (nI j))], [.int 14, .ref 77, .int a])) (h' := zH v w t) rfl ?_
    refine zk_T.ob (f' := (19, [(0, .ref 69), (1, .ref 77), (2, .int a), (3, .int (nI j))], [.int (v 76 (14 : Int32).toNatClampNeg), .int a])) (h' := zH v w t) rfl rfl ?_
    show zk_T zk_mt zk_ex Ls xs zm_132 (19, [(0, .ref 69), (1, .ref 77), (2, .int a), (3, .int (nI j))], [.int (v 76 14), .int a]) (zH v w t) _
    refine zk_T.adv 1 (f' := (20, [(0, .ref 69), (1, .ref 77), (2, .int a), (3, .int (nI j))], [.int (nI j), .int (v 76 14), .int a])) (h' := zH v w t) rfl ?_
    refine zk_T.cl (v := some (.int (zr_mhasBit (v 76 14) (nI j)))) (h' := zH v w t) rfl (zs_mhasBit (v 76 14) (nI j)) ?_
    show zk_T zk_mt zk_ex Ls xs zm_132 (23, [(0, .ref 69), (1, .ref 77), (2, .int a), (3, .int (nI j))], [.int (zr_mhasBit (v 76 14) (nI j)), .int a]) (zH v w t) _
    refine zk_T.br (f1 := (30, [(0, .ref 69), (1, .ref 77), (2, .int a), (3, .int (nI j))], [.int a])) (f2 := (26, [(0, .ref 69), (1, .ref 77), (2, .int a), (3, .int (nI j))], [.int a])) rfl (fun c2 => ?_) (fun c2 => ?_)
    · have c2 : (zr_mhasBit (v 76 14) (nI j)) = 0 := of_decide_eq_true c2
      refine zk_T.adv 6 (f' := (39, [(0, .ref 69), (1, .ref 77), (2, .int a), (3, .int (nI j))], [.int (2 * (nI j)), .int 33, .ref 72, .int a])) (h' := zH v w t) rfl ?_
      rw [show 2 * (nI j) = nI (2 * j) from pk_mul 2 j]
      refine zk_T.adv 1 (f' := (40, [(0, .ref 69), (1, .ref 77), (2, .int a), (3, .int (nI j))], [.int (33 + (nI (2 * j))), .ref 72, .int a])) (h' := zH v w t) rfl ?_
      rw [show 33 + (nI (2 * j)) = nI (33 + (2 * j)) from nI_add 33 (2 * j)]
      refine zk_T.ob (f' := (41, [(0, .ref 69), (1, .ref 77), (2, .int a), (3, .int (nI j))], [.int (v 71 (nI (33 + (2 * j))).toNatClampNeg), .int a])) (h' := zH v w t) rfl (by first | exact zk_inN (by omega) (by decide) | decide) ?_
      rw [nI_clamp (show (33 + (2 * j)) < 2 ^ 31 by omega)]
      refine zk_T.adv 4 (f' := (4, [(0, .ref 69), (1, .ref 77), (2, .int (a + (v 71 (33 + (2 * j))))), (3, .int ((nI j) + 1))], [])) (h' := zH v w t) rfl ?_
      rw [nI_1]
      simp only [zl_mworthG, if_pos c2] at hk
      exact hk
    · have c2 : ¬ ((zr_mhasBit (v 76 14) (nI j)) = 0) := of_decide_eq_false c2
      refine zk_T.adv 6 (f' := (4, [(0, .ref 69), (1, .ref 77), (2, .int (a + 0)), (3, .int ((nI j) + 1))], [])) (h' := zH v w t) rfl ?_
      rw [nI_1]
      simp only [zl_mworthG, if_neg c2] at hk
      exact hk
  · have hz := True.intro
    obtain ⟨a, rfl⟩ : ∃ z, z = s := ⟨_, rfl⟩
    show zk_T zk_mt zk_ex Ls xs zm_132 (4, [(0, .ref 69), (1, .ref 77), (2, .int a), (3, .int (nI (0 + Gn)))], []) (zH v w t) q
    refine zk_T.adv 4 (f' := (10, [(0, .ref 69), (1, .ref 77), (2, .int a), (3, .int (nI (0 + Gn)))], [.int 3, .ref 72, .int (nI (0 + Gn))])) (h' := zH v w t) rfl ?_
    refine zk_T.ob (f' := (11, [(0, .ref 69), (1, .ref 77), (2, .int a), (3, .int (nI (0 + Gn)))], [.int (v 71 (3 : Int32).toNatClampNeg), .int (nI (0 + Gn))])) (h' := zH v w t) rfl rfl ?_
    show zk_T zk_mt zk_ex Ls xs zm_132 (11, [(0, .ref 69), (1, .ref 77), (2, .int a), (3, .int (nI (0 + Gn)))], [.int (v 71 3), .int (nI (0 + Gn))]) (zH v w t) _
    refine zk_T.br (f1 := (49, [(0, .ref 69), (1, .ref 77), (2, .int a), (3, .int (nI (0 + Gn)))], [])) (f2 := (14, [(0, .ref 69), (1, .ref 77), (2, .int a), (3, .int (nI (0 + Gn)))], [])) rfl (fun c1 => ?_) (fun c1 => absurd (by rw [show _ = nI Gn from hG, Nat.zero_add]; exact nI_le (Nat.le_refl _) (by omega)) (of_decide_eq_false c1))
    exact hk
  · exact trivial
def zr_mworth (Gn : Nat) (r row : Nat → Int32) : Int32 := (zf (zl_mworthG (r) (row)) Gn 0 0)
/-- BasketKeepModel.worthOn -/
theorem zs_mworthOnT (Gn : Nat) (hG : v 71 3 = nI Gn) (h4 : Gn ≤ 4) : zk_Cr zk_mt zk_ex Ls xs 132 [.ref 69, .ref 77] (zH v w t) (some (.int (zr_mworth Gn (v 71) (v 76))), zH v w t) := by
  refine zk_Cr.of (K := zm_132) rfl rfl rfl ?_
  show zk_T zk_mt zk_ex Ls xs zm_132 (0, [(0, .ref 69), (1, .ref 77)], []) (zH v w t) _
  refine zk_T.adv 4 (f' := (4, [(0, .ref 69), (1, .ref 77), (2, .int 0), (3, .int 0)], [])) (h' := zH v w t) rfl ?_
  refine zl_mworthT (v := v) (w := w) (t := t) Gn hG h4 0 _ ?_
  show zk_T zk_mt zk_ex Ls xs zm_132 (49, [(0, .ref 69), (1, .ref 77), (2, .int (zf (zl_mworthG (v 71) (v 76)) Gn 0 0)), (3, .int (nI (0 + Gn)))], []) (zH v w t) _
  refine zk_T.adv 1 (f' := (50, [(0, .ref 69), (1, .ref 77), (2, .int (zf (zl_mworthG (v 71) (v 76)) Gn 0 0)), (3, .int (nI (0 + Gn)))], [.int (zf (zl_mworthG (v 71) (v 76)) Gn 0 0)])) (h' := zH v w t) rfl ?_
  exact zk_T.rt rfl rfl (by rfl)
theorem zl_mworthS (Gn : Nat) (hG : v 71 3 = nI Gn) (h4 : Gn ≤ 4) : ∀ (s : Int32) (q : Option Value × zk_H), zk_T zk_mt zk_ex Ls xs zm_132 ((fun (s : Int32) => ((49, [(0, .ref 69), (1, .ref 76), (2, .int s), (3, .int (nI (0 + Gn)))], []) : zk_F)) (zf (zl_mworthG (v 71) (v 75)) Gn 0 s)) ((fun (s : Int32) => zH v w t) (zf (zl_mworthG (v 71) (v 75)) Gn 0 s)) q → zk_T zk_mt zk_ex Ls xs zm_132 (4, [(0, .ref 69), (1, .ref 76), (2, .int s), (3, .int (nI 0))], []) (zH v w t) q := by
  intro s q hk
  refine zk_forK (M := zm_132) (fun j (s : Int32) => (4, [(0, .ref 69), (1, .ref 76), (2, .int s), (3, .int (nI j))], [])) (fun _ (s : Int32) => zH v w t) (zl_mworthG (v 71) (v 75)) (fun _ _ => True) (fun (s : Int32) => (49, [(0, .ref 69), (1, .ref 76), (2, .int s), (3, .int (nI (0 + Gn)))], [])) (fun (s : Int32) => zH v w t) (Gn) 0 s (fun _ _ _ _ _ => trivial) (fun j s hj1 hj2 hp q hk => ?_) (fun s hp q hk => ?_) ?_ q hk
  · have hz := True.intro
    obtain ⟨a, rfl⟩ : ∃ z, z = s := ⟨_, rfl⟩
    show zk_T zk_mt zk_ex Ls xs zm_132 (4, [(0, .ref 69), (1, .ref 76), (2, .int a), (3, .int (nI j))], []) (zH v w t) q
    refine zk_T.adv 4 (f' := (10, [(0, .ref 69), (1, .ref 76), (2, .int a), (3, .int (nI j))], [.int 3, .ref 72, .int (nI j)])) (h' := zH v w t) rfl ?_
    refine zk_T.ob (f' := (11, [(0, .ref 69), (1, .ref 76), (2, .int a), (3, .int (nI j))], [.int (v 71 (3 : Int32).toNatClampNeg), .int (nI j)])) (h' := zH v w t) rfl rfl ?_
    show zk_T zk_mt zk_ex Ls xs zm_132 (11, [(0, .ref 69), (1, .ref 76), (2, .int a), (3, .int (nI j))], [.int (v 71 3), .int (nI j)]) (zH v w t) _
    refine zk_T.br (f1 := (49, [(0, .ref 69), (1, .ref 76), (2, .int a), (3, .int (nI j))], [])) (f2 := (14, [(0, .ref 69), (1, .ref 76), (2, .int a), (3, .int (nI j))], [])) rfl (fun c1 => absurd (of_decide_eq_true c1) (by rw [show _ = nI Gn from hG]; exact nI_ge (show j < Gn by omega) (by omega))) (fun c1 => ?_)
    refine zk_T.adv 3 (f' := (18, [(0, .ref 69), (1, .ref 76), (2, .int a), (3, .int (nI j))], [.int 14, .ref 76, .int a])) (h' := zH v w t) rfl ?_
    refine zk_T.ob (f' := (19, [(0, .ref 69), (1, .ref 76), (2, .int a), (3, .int (nI j))], [.int (v 75 (14 : Int32).toNatClampNeg), .int a])) (h' := zH v w t) rfl rfl ?_
    show zk_T zk_mt zk_ex Ls xs zm_132 (19, [(0, .ref 69), (1, .ref 76), (2, .int a), (3, .int (nI j))], [.int (v 75 14), .int a]) (zH v w t) _
    refine zk_T.adv 1 (f' := (20, [(0, .ref 69), (1, .ref 76), (2, .int a), (3, .int (nI j))], [.int (nI j), .int (v 75 14), .int a])) (h' := zH v w t) rfl ?_
    refine zk_T.cl (v := some (.int (zr_mhasBit (v 75 14) (nI j)))) (h' := zH v w t) rfl (zs_mhasBit (v 75 14) (nI j)) ?_
    show zk_T zk_mt zk_ex Ls xs zm_132 (23, [(0, .ref 69), (1, .ref 76), (2, .int a), (3, .int (nI j))], [.int (zr_mhasBit (v 75 14) (nI j)), .int a]) (zH v w t) _
    refine zk_T.br (f1 := (30, [(0, .ref 69), (1, .ref 76), (2, .int a), (3, .int (nI j))], [.int a])) (f2 := (26, [(0, .ref 69), (1, .ref 76), (2, .int a), (3, .int (nI j))], [.int a])) rfl (fun c2 => ?_) (fun c2 => ?_)
    · have c2 : (zr_mhasBit (v 75 14) (nI j)) = 0 := of_decide_eq_true c2
      refine zk_T.adv 6 (f' := (39, [(0, .ref 69), (1, .ref 76), (2, .int a), (3, .int (nI j))], [.int (2 * (nI j)), .int 33, .ref 72, .int a])) (h' := zH v w t) rfl ?_
      rw [show 2 * (nI j) = nI (2 * j) from pk_mul 2 j]
      refine zk_T.adv 1 (f' := (40, [(0, .ref 69), (1, .ref 76), (2, .int a), (3, .int (nI j))], [.int (33 + (nI (2 * j))), .ref 72, .int a])) (h' := zH v w t) rfl ?_
      rw [show 33 + (nI (2 * j)) = nI (33 + (2 * j)) from nI_add 33 (2 * j)]
      refine zk_T.ob (f' := (41, [(0, .ref 69), (1, .ref 76), (2, .int a), (3, .int (nI j))], [.int (v 71 (nI (33 + (2 * j))).toNatClampNeg), .int a])) (h' := zH v w t) rfl (by first | exact zk_inN (by omega) (by decide) | decide) ?_
      rw [nI_clamp (show (33 + (2 * j)) < 2 ^ 31 by omega)]
      refine zk_T.adv 4 (f' := (4, [(0, .ref 69), (1, .ref 76), (2, .int (a + (v 71 (33 + (2 * j))))), (3, .int ((nI j) + 1))], [])) (h' := zH v w t) rfl ?_
      rw [nI_1]
      simp only [zl_mworthG, if_pos c2] at hk
      exact hk
    · have c2 : ¬ ((zr_mhasBit (v 75 14) (nI j)) = 0) := of_decide_eq_false c2
      refine zk_T.adv 6 (f' := (4, [(0, .ref 69), (1, .ref 76), (2, .int (a + 0)), (3, .int ((nI j) + 1))], [])) (h' := zH v w t) rfl ?_
      rw [nI_1]
      simp only [zl_mworthG, if_neg c2] at hk
      exact hk
  · have hz := True.intro
    obtain ⟨a, rfl⟩ : ∃ z, z = s := ⟨_, rfl⟩
    show zk_T zk_mt zk_ex Ls xs zm_132 (4, [(0, .ref 69), (1, .ref 76), (2, .int a), (3, .int (nI (0 + Gn)))], []) (zH v w t) q
    refine zk_T.adv 4 (f' := (10, [(0, .ref 69), (1, .ref 76), (2, .int a), (3, .int (nI (0 + Gn)))], [.int 3, .ref 72, .int (nI (0 + Gn))])) (h' := zH v w t) rfl ?_
    refine zk_T.ob (f' := (11, [(0, .ref 69), (1, .ref 76), (2, .int a), (3, .int (nI (0 + Gn)))], [.int (v 71 (3 : Int32).toNatClampNeg), .int (nI (0 + Gn))])) (h' := zH v w t) rfl rfl ?_
    show zk_T zk_mt zk_ex Ls xs zm_132 (11, [(0, .ref 69), (1, .ref 76), (2, .int a), (3, .int (nI (0 + Gn)))], [.int (v 71 3), .int (nI (0 + Gn))]) (zH v w t) _
    refine zk_T.br (f1 := (49, [(0, .ref 69), (1, .ref 76), (2, .int a), (3, .int (nI (0 + Gn)))], [])) (f2 := (14, [(0, .ref 69), (1, .ref 76), (2, .int a), (3, .int (nI (0 + Gn)))], [])) rfl (fun c1 => ?_) (fun c1 => absurd (by rw [show _ = nI Gn from hG, Nat.zero_add]; exact nI_le (Nat.le_refl _) (by omega)) (of_decide_eq_false c1))
    exact hk
  · exact trivial
/-- BasketKeepModel.worthOn -/
theorem zs_mworthOnS (Gn : Nat) (hG : v 71 3 = nI Gn) (h4 : Gn ≤ 4) : zk_Cr zk_mt zk_ex Ls xs 132 [.ref 69, .ref 76] (zH v w t) (some (.int (zr_mworth Gn (v 71) (v 75))), zH v w t) := by
  refine zk_Cr.of (K := zm_132) rfl rfl rfl ?_
  show zk_T zk_mt zk_ex Ls xs zm_132 (0, [(0, .ref 69), (1, .ref 76)], []) (zH v w t) _
  refine zk_T.adv 4 (f' := (4, [(0, .ref 69), (1, .ref 76), (2, .int 0), (3, .int 0)], [])) (h' := zH v w t) rfl ?_
  refine zl_mworthS (v := v) (w := w) (t := t) Gn hG h4 0 _ ?_
  show zk_T zk_mt zk_ex Ls xs zm_132 (49, [(0, .ref 69), (1, .ref 76), (2, .int (zf (zl_mworthG (v 71) (v 75)) Gn 0 0)), (3, .int (nI (0 + Gn)))], []) (zH v w t) _
  refine zk_T.adv 1 (f' := (50, [(0, .ref 69), (1, .ref 76), (2, .int (zf (zl_mworthG (v 71) (v 75)) Gn 0 0)), (3, .int (nI (0 + Gn)))], [.int (zf (zl_mworthG (v 71) (v 75)) Gn 0 0)])) (h' := zH v w t) rfl ?_
  exact zk_T.rt rfl rfl (by rfl)
def zl_mfearersG (rr : Nat → Int32) (d : Int32) (j : Nat) (s : Int32) : Int32 := match s with
  | a => if (zr_mhasBit (rr ((33 + (2 * j)) + 1)) d) = 0 then a ||| 0 else a ||| ((1 : Int32) <<< ((nI j) &&& 31))
theorem zl_mfearers (Gn : Nat) (hG : v 71 3 = nI Gn) (h4 : Gn ≤ 4) (d : Int32) : ∀ (s : Int32) (q : Option Value × zk_H), zk_T zk_mt zk_ex Ls xs zm_112 ((fun (s : Int32) => ((50, [(0, .ref 69), (1, .int d), (2, .int s), (3, .int (nI (0 + Gn)))], []) : zk_F)) (zf (zl_mfearersG (v 71) d) Gn 0 s)) ((fun (s : Int32) => zH v w t) (zf (zl_mfearersG (v 71) d) Gn 0 s)) q → zk_T zk_mt zk_ex Ls xs zm_112 (4, [(0, .ref 69), (1, .int d), (2, .int s), (3, .int (nI 0))], []) (zH v w t) q := by
  intro s q hk
  refine zk_forK (M := zm_112) (fun j (s : Int32) => (4, [(0, .ref 69), (1, .int d), (2, .int s), (3, .int (nI j))], [])) (fun _ (s : Int32) => zH v w t) (zl_mfearersG (v 71) d) (fun _ _ => True) (fun (s : Int32) => (50, [(0, .ref 69), (1, .int d), (2, .int s), (3, .int (nI (0 + Gn)))], [])) (fun (s : Int32) => zH v w t) (Gn) 0 s (fun _ _ _ _ _ => trivial) (fun j s hj1 hj2 hp q hk => ?_) (fun s hp q hk => ?_) ?_ q hk
  · have hz := True.intro
    obtain ⟨a, rfl⟩ : ∃ z, z = s := ⟨_, rfl⟩
    show zk_T zk_mt zk_ex Ls xs zm_112 (4, [(0, .ref 69), (1, .int d), (2, .int a), (3, .int (nI j))], []) (zH v w t) q
    refine zk_T.adv 4 (f' := (10, [(0, .ref 69), (1, .int d), (2, .int a), (3, .int (nI j))], [.int 3, .ref 72, .int (nI j)])) (h' := zH v w t) rfl ?_
    refine zk_T.ob (f' := (11, [(0, .ref 69), (1, .int d), (2, .int a), (3, .int (nI j))], [.int (v 71 (3 : Int32).toNatClampNeg), .int (nI j)])) (h' := zH v w t) rfl rfl ?_
    show zk_T zk_mt zk_ex Ls xs zm_112 (11, [(0, .ref 69), (1, .int d), (2, .int a), (3, .int (nI j))], [.int (v 71 3), .int (nI j)]) (zH v w t) _
    refine zk_T.br (f1 := (50, [(0, .ref 69), (1, .int d), (2, .int a), (3, .int (nI j))], [])) (f2 := (14, [(0, .ref 69), (1, .int d), (2, .int a), (3, .int (nI j))], [])) rfl (fun c1 => absurd (of_decide_eq_true c1) (by rw [show _ = nI Gn from hG]; exact nI_ge (show j < Gn by omega) (by omega))) (fun c1 => ?_)
    refine zk_T.adv 7 (f' := (24, [(0, .ref 69), (1, .int d), (2, .int a), (3, .int (nI j))], [.int (2 * (nI j)), .int 33, .ref 72, .int a])) (h' := zH v w t) rfl ?_
    rw [show 2 * (nI j) = nI (2 * j) from pk_mul 2 j]
    refine zk_T.adv 1 (f' := (25, [(0, .ref 69), (1, .int d), (2, .int a), (3, .int (nI j))], [.int (33 + (nI (2 * j))), .ref 72, .int a])) (h' := zH v w t) rfl ?_
    rw [show 33 + (nI (2 * j)) = nI (33 + (2 * j)) from nI_add 33 (2 * j)]
    refine zk_T.adv 2 (f' := (27, [(0, .ref 69), (1, .int d), (2, .int a), (3, .int (nI j))], [.int ((nI (33 + (2 * j))) + 1), .ref 72, .int a])) (h' := zH v w t) rfl ?_
    rw [show (nI (33 + (2 * j))) + 1 = nI ((33 + (2 * j)) + 1) from nI_add (33 + (2 * j)) 1]
    refine zk_T.ob (f' := (28, [(0, .ref 69), (1, .int d), (2, .int a), (3, .int (nI j))], [.int (v 71 (nI ((33 + (2 * j)) + 1)).toNatClampNeg), .int a])) (h' := zH v w t) rfl (by first | exact zk_inN (by omega) (by decide) | decide) ?_
    rw [nI_clamp (show ((33 + (2 * j)) + 1) < 2 ^ 31 by omega)]
    refine zk_T.adv 1 (f' := (29, [(0, .ref 69), (1, .int d), (2, .int a), (3, .int (nI j))], [.int d, .int (v 71 ((33 + (2 * j)) + 1)), .int a])) (h' := zH v w t) rfl ?_
    refine zk_T.cl (v := some (.int (zr_mhasBit (v 71 ((33 + (2 * j)) + 1)) d))) (h' := zH v w t) rfl (zs_mhasBit (v 71 ((33 + (2 * j)) + 1)) d) ?_
    show zk_T zk_mt zk_ex Ls xs zm_112 (32, [(0, .ref 69), (1, .int d), (2, .int a), (3, .int (nI j))], [.int (zr_mhasBit (v 71 ((33 + (2 * j)) + 1)) d), .int a]) (zH v w t) _
    refine zk_T.br (f1 := (41, [(0, .ref 69), (1, .int d), (2, .int a), (3, .int (nI j))], [.int a])) (f2 := (35, [(0, .ref 69), (1, .int d), (2, .int a), (3, .int (nI j))], [.int a])) rfl (fun c2 => ?_) (fun c2 => ?_)
    · have c2 : (zr_mhasBit (v 71 ((33 + (2 * j)) + 1)) d) = 0 := of_decide_eq_true c2
      refine zk_T.adv 5 (f' := (4, [(0, .ref 69), (1, .int d), (2, .int (a ||| 0)), (3, .int ((nI j) + 1))], [])) (h' := zH v w t) rfl ?_
      rw [nI_1]
      simp only [zl_mfearersG, if_pos c2] at hk
      exact hk
    · have c2 : ¬ ((zr_mhasBit (v 71 ((33 + (2 * j)) + 1)) d) = 0) := of_decide_eq_false c2
      refine zk_T.adv 8 (f' := (4, [(0, .ref 69), (1, .int d), (2, .int (a ||| ((1 : Int32) <<< ((nI j) &&& 31)))), (3, .int ((nI j) + 1))], [])) (h' := zH v w t) rfl ?_
      rw [nI_1]
      simp only [zl_mfearersG, if_neg c2] at hk
      exact hk
  · have hz := True.intro
    obtain ⟨a, rfl⟩ : ∃ z, z = s := ⟨_, rfl⟩
    show zk_T zk_mt zk_ex Ls xs zm_112 (4, [(0, .ref 69), (1, .int d), (2, .int a), (3, .int (nI (0 + Gn)))], []) (zH v w t) q
    refine zk_T.adv 4 (f' := (10, [(0, .ref 69), (1, .int d), (2, .int a), (3, .int (nI (0 + Gn)))], [.int 3, .ref 72, .int (nI (0 + Gn))])) (h' := zH v w t) rfl ?_
    refine zk_T.ob (f' := (11, [(0, .ref 69), (1, .int d), (2, .int a), (3, .int (nI (0 + Gn)))], [.int (v 71 (3 : Int32).toNatClampNeg), .int (nI (0 + Gn))])) (h' := zH v w t) rfl rfl ?_
    show zk_T zk_mt zk_ex Ls xs zm_112 (11, [(0, .ref 69), (1, .int d), (2, .int a), (3, .int (nI (0 + Gn)))], [.int (v 71 3), .int (nI (0 + Gn))]) (zH v w t) _
    refine zk_T.br (f1 := (50, [(0, .ref 69), (1, .int d), (2, .int a), (3, .int (nI (0 + Gn)))], [])) (f2 := (14, [(0, .ref 69), (1, .int d), (2, .int a), (3, .int (nI (0 + Gn)))], [])) rfl (fun c1 => ?_) (fun c1 => absurd (by rw [show _ = nI Gn from hG, Nat.zero_add]; exact nI_le (Nat.le_refl _) (by omega)) (of_decide_eq_false c1))
    exact hk
  · exact trivial
def zr_mfearers (Gn : Nat) (rr : Nat → Int32) (d : Int32) : Int32 := (zf (zl_mfearersG (rr) d) Gn 0 0)
/-- BasketKeepModel.fearers -/
theorem zs_mfearers (Gn : Nat) (hG : v 71 3 = nI Gn) (h4 : Gn ≤ 4) (d : Int32) : zk_Cr zk_mt zk_ex Ls xs 112 [.ref 69, .int d] (zH v w t) (some (.int (zr_mfearers Gn (v 71) d)), zH v w t) := by
  refine zk_Cr.of (K := zm_112) rfl rfl rfl ?_
  show zk_T zk_mt zk_ex Ls xs zm_112 (0, [(0, .ref 69), (1, .int d)], []) (zH v w t) _
  refine zk_T.adv 4 (f' := (4, [(0, .ref 69), (1, .int d), (2, .int 0), (3, .int 0)], [])) (h' := zH v w t) rfl ?_
  refine zl_mfearers (v := v) (w := w) (t := t) Gn hG h4 d 0 _ ?_
  show zk_T zk_mt zk_ex Ls xs zm_112 (50, [(0, .ref 69), (1, .int d), (2, .int (zf (zl_mfearersG (v 71) d) Gn 0 0)), (3, .int (nI (0 + Gn)))], []) (zH v w t) _
  refine zk_T.adv 1 (f' := (51, [(0, .ref 69), (1, .int d), (2, .int (zf (zl_mfearersG (v 71) d) Gn 0 0)), (3, .int (nI (0 + Gn)))], [.int (zf (zl_mfearersG (v 71) d) Gn 0 0)])) (h' := zH v w t) rfl ?_
  exact zk_T.rt rfl rfl (by rfl)
def zl_mthinkersG (st : Nat → Int32) (d : Int32) (j : Nat) (s : Int32) : Int32 := match s with
  | a => if (zr_mhasBit (st (5 + j)) d) = 0 then a ||| 0 else a ||| ((1 : Int32) <<< ((nI j) &&& 31))
theorem zl_mthinkers (Mn : Nat) (hM : v 71 2 = nI Mn) (h5 : Mn ≤ 5) (d : Int32) : ∀ (s : Int32) (q : Option Value × zk_H), zk_T zk_mt zk_ex Ls xs zm_129 ((fun (s : Int32) => ((45, [(0, .ref 69), (1, .int d), (2, .int s), (3, .int (nI (0 + Mn)))], []) : zk_F)) (zf (zl_mthinkersG (v 75) d) Mn 0 s)) ((fun (s : Int32) => zH v w t) (zf (zl_mthinkersG (v 75) d) Mn 0 s)) q → zk_T zk_mt zk_ex Ls xs zm_129 (4, [(0, .ref 69), (1, .int d), (2, .int s), (3, .int (nI 0))], []) (zH v w t) q := by
  intro s q hk
  refine zk_forK (M := zm_129) (fun j (s : Int32) => (4, [(0, .ref 69), (1, .int d), (2, .int s), (3, .int (nI j))], [])) (fun _ (s : Int32) => zH v w t) (zl_mthinkersG (v 75) d) (fun _ _ => True) (fun (s : Int32) => (45, [(0, .ref 69), (1, .int d), (2, .int s), (3, .int (nI (0 + Mn)))], [])) (fun (s : Int32) => zH v w t) (Mn) 0 s (fun _ _ _ _ _ => trivial) (fun j s hj1 hj2 hp q hk => ?_) (fun s hp q hk => ?_) ?_ q hk
  · have hz := True.intro
    obtain ⟨a, rfl⟩ : ∃ z, z = s := ⟨_, rfl⟩
    show zk_T zk_mt zk_ex Ls xs zm_129 (4, [(0, .ref 69), (1, .int d), (2, .int a), (3, .int (nI j))], []) (zH v w t) q
    refine zk_T.adv 4 (f' := (10, [(0, .ref 69), (1, .int d), (2, .int a), (3, .int (nI j))], [.int 2, .ref 72, .int (nI j)])) (h' := zH v w t) rfl ?_
    refine zk_T.ob (f' := (11, [(0, .ref 69), (1, .int d), (2, .int a), (3, .int (nI j))], [.int (v 71 (2 : Int32).toNatClampNeg), .int (nI j)])) (h' := zH v w t) rfl rfl ?_
    show zk_T zk_mt zk_ex Ls xs zm_129 (11, [(0, .ref 69), (1, .int d), (2, .int a), (3, .int (nI j))], [.int (v 71 2), .int (nI j)]) (zH v w t) _
    refine zk_T.br (f1 := (45, [(0, .ref 69), (1, .int d), (2, .int a), (3, .int (nI j))], [])) (f2 := (14, [(0, .ref 69), (1, .int d), (2, .int a), (3, .int (nI j))], [])) rfl (fun c1 => absurd (of_decide_eq_true c1) (by rw [show _ = nI Mn from hM]; exact nI_ge (show j < Mn by omega) (by omega))) (fun c1 => ?_)
    refine zk_T.adv 6 (f' := (22, [(0, .ref 69), (1, .int d), (2, .int a), (3, .int (nI j))], [.int (5 + (nI j)), .ref 76, .int a])) (h' := zH v w t) rfl ?_
    rw [show 5 + (nI j) = nI (5 + j) from nI_add 5 j]
    refine zk_T.ob (f' := (23, [(0, .ref 69), (1, .int d), (2, .int a), (3, .int (nI j))], [.int (v 75 (nI (5 + j)).toNatClampNeg), .int a])) (h' := zH v w t) rfl (by first | exact zk_inN (by omega) (by decide) | decide) ?_
    rw [nI_clamp (show (5 + j) < 2 ^ 31 by omega)]
    refine zk_T.adv 1 (f' := (24, [(0, .ref 69), (1, .int d), (2, .int a), (3, .int (nI j))], [.int d, .int (v 75 (5 + j)), .int a])) (h' := zH v w t) rfl ?_
    refine zk_T.cl (v := some (.int (zr_mhasBit (v 75 (5 + j)) d))) (h' := zH v w t) rfl (zs_mhasBit (v 75 (5 + j)) d) ?_
    show zk_T zk_mt zk_ex Ls xs zm_129 (27, [(0, .ref 69), (1, .int d), (2, .int a), (3, .int (nI j))], [.int (zr_mhasBit (v 75 (5 + j)) d), .int a]) (zH v w t) _
    refine zk_T.br (f1 := (36, [(0, .ref 69), (1, .int d), (2, .int a), (3, .int (nI j))], [.int a])) (f2 := (30, [(0, .ref 69), (1, .int d), (2, .int a), (3, .int (nI j))], [.int a])) rfl (fun c2 => ?_) (fun c2 => ?_)
    · have c2 : (zr_mhasBit (v 75 (5 + j)) d) = 0 := of_decide_eq_true c2
      refine zk_T.adv 5 (f' := (4, [(0, .ref 69), (1, .int d), (2, .int (a ||| 0)), (3, .int ((nI j) + 1))], [])) (h' := zH v w t) rfl ?_
      rw [nI_1]
      simp only [zl_mthinkersG, if_pos c2] at hk
      exact hk
    · have c2 : ¬ ((zr_mhasBit (v 75 (5 + j)) d) = 0) := of_decide_eq_false c2
      refine zk_T.adv 8 (f' := (4, [(0, .ref 69), (1, .int d), (2, .int (a ||| ((1 : Int32) <<< ((nI j) &&& 31)))), (3, .int ((nI j) + 1))], [])) (h' := zH v w t) rfl ?_
      rw [nI_1]
      simp only [zl_mthinkersG, if_neg c2] at hk
      exact hk
  · have hz := True.intro
    obtain ⟨a, rfl⟩ : ∃ z, z = s := ⟨_, rfl⟩
    show zk_T zk_mt zk_ex Ls xs zm_129 (4, [(0, .ref 69), (1, .int d), (2, .int a), (3, .int (nI (0 + Mn)))], []) (zH v w t) q
    refine zk_T.adv 4 (f' := (10, [(0, .ref 69), (1, .int d), (2, .int a), (3, .int (nI (0 + Mn)))], [.int 2, .ref 72, .int (nI (0 + Mn))])) (h' := zH v w t) rfl ?_
    refine zk_T.ob (f' := (11, [(0, .ref 69), (1, .int d), (2, .int a), (3, .int (nI (0 + Mn)))], [.int (v 71 (2 : Int32).toNatClampNeg), .int (nI (0 + Mn))])) (h' := zH v w t) rfl rfl ?_
    show zk_T zk_mt zk_ex Ls xs zm_129 (11, [(0, .ref 69), (1, .int d), (2, .int a), (3, .int (nI (0 + Mn)))], [.int (v 71 2), .int (nI (0 + Mn))]) (zH v w t) _
    refine zk_T.br (f1 := (45, [(0, .ref 69), (1, .int d), (2, .int a), (3, .int (nI (0 + Mn)))], [])) (f2 := (14, [(0, .ref 69), (1, .int d), (2, .int a), (3, .int (nI (0 + Mn)))], [])) rfl (fun c1 => ?_) (fun c1 => absurd (by rw [show _ = nI Mn from hM, Nat.zero_add]; exact nI_le (Nat.le_refl _) (by omega)) (of_decide_eq_false c1))
    exact hk
  · exact trivial
def zr_mthinkers (Mn : Nat) (st : Nat → Int32) (d : Int32) : Int32 := (zf (zl_mthinkersG (st) d) Mn 0 0)
/-- BasketKeepModel.thinkers -/
theorem zs_mthinkers (Mn : Nat) (hM : v 71 2 = nI Mn) (h5 : Mn ≤ 5) (d : Int32) : zk_Cr zk_mt zk_ex Ls xs 129 [.ref 69, .int d] (zH v w t) (some (.int (zr_mthinkers Mn (v 75) d)), zH v w t) := by
  refine zk_Cr.of (K := zm_129) rfl rfl rfl ?_
  show zk_T zk_mt zk_ex Ls xs zm_129 (0, [(0, .ref 69), (1, .int d)], []) (zH v w t) _
  refine zk_T.adv 4 (f' := (4, [(0, .ref 69), (1, .int d), (2, .int 0), (3, .int 0)], [])) (h' := zH v w t) rfl ?_
  refine zl_mthinkers (v := v) (w := w) (t := t) Mn hM h5 d 0 _ ?_
  show zk_T zk_mt zk_ex Ls xs zm_129 (45, [(0, .ref 69), (1, .int d), (2, .int (zf (zl_mthinkersG (v 75) d) Mn 0 0)), (3, .int (nI (0 + Mn)))], []) (zH v w t) _
  refine zk_T.adv 1 (f' := (46, [(0, .ref 69), (1, .int d), (2, .int (zf (zl_mthinkersG (v 75) d) Mn 0 0)), (3, .int (nI (0 + Mn)))], [.int (zf (zl_mthinkersG (v 75) d) Mn 0 0)])) (h' := zH v w t) rfl ?_
  exact zk_T.rt rfl rfl (by rfl)
def zl_mgoodInG (st : Nat → Int32) (m : Int32) (j : Nat) (s : Unit) : (Unit) ⊕ Int32 := match s with
  | () => if (st (10 + j)) = (m + 1) then .inr (nI j) else .inl ()
theorem zl_mgoodIn (Gn : Nat) (hG : v 71 3 = nI Gn) (h4 : Gn ≤ 4) (m : Int32) : ∀ (s : Unit) (q : Option Value × zk_H), zk_or (fun (s : Unit) => zk_T zk_mt zk_ex Ls xs zm_48 (35, [(0, .ref 69), (1, .int m), (2, .int (nI (0 + Gn)))], []) (zH v w t) q) (fun (r : Int32) => (some (.int r), zH v w t) = q) (zfr (zl_mgoodInG (v 75) m) Gn 0 s) → zk_T zk_mt zk_ex Ls xs zm_48 (2, [(0, .ref 69), (1, .int m), (2, .int (nI 0))], []) (zH v w t) q := by
  intro s q hk
  refine zk_forX (M := zm_48) (fun j (s : Unit) => (2, [(0, .ref 69), (1, .int m), (2, .int (nI j))], [])) (fun _ (s : Unit) => zH v w t) (zl_mgoodInG (v 75) m) (fun _ _ => True) (fun (s : Unit) => (35, [(0, .ref 69), (1, .int m), (2, .int (nI (0 + Gn)))], [])) (fun (s : Unit) => zH v w t) (fun r q => (some (.int r), zH v w t) = q) (Gn) 0 s (fun _ _ _ _ _ _ _ => trivial) (fun j s hj1 hj2 hp q hk => ?_) (fun s hp q hk => ?_) ?_ q hk
  · have hz := True.intro
    show zk_T zk_mt zk_ex Ls xs zm_48 (2, [(0, .ref 69), (1, .int m), (2, .int (nI j))], []) (zH v w t) q
    refine zk_T.adv 4 (f' := (8, [(0, .ref 69), (1, .int m), (2, .int (nI j))], [.int 3, .ref 72, .int (nI j)])) (h' := zH v w t) rfl ?_
    refine zk_T.ob (f' := (9, [(0, .ref 69), (1, .int m), (2, .int (nI j))], [.int (v 71 (3 : Int32).toNatClampNeg), .int (nI j)])) (h' := zH v w t) rfl rfl ?_
    show zk_T zk_mt zk_ex Ls xs zm_48 (9, [(0, .ref 69), (1, .int m), (2, .int (nI j))], [.int (v 71 3), .int (nI j)]) (zH v w t) _
    refine zk_T.br (f1 := (35, [(0, .ref 69), (1, .int m), (2, .int (nI j))], [])) (f2 := (12, [(0, .ref 69), (1, .int m), (2, .int (nI j))], [])) rfl (fun c1 => absurd (of_decide_eq_true c1) (by rw [show _ = nI Gn from hG]; exact nI_ge (show j < Gn by omega) (by omega))) (fun c1 => ?_)
    refine zk_T.adv 5 (f' := (20, [(0, .ref 69), (1, .int m), (2, .int (nI j))], [.int (10 + (nI j)), .ref 76])) (h' := zH v w t) rfl ?_
    rw [show 10 + (nI j) = nI (10 + j) from nI_add 10 j]
    refine zk_T.ob (f' := (21, [(0, .ref 69), (1, .int m), (2, .int (nI j))], [.int (v 75 (nI (10 + j)).toNatClampNeg)])) (h' := zH v w t) rfl (by first | exact zk_inN (by omega) (by decide) | decide) ?_
    rw [nI_clamp (show (10 + j) < 2 ^ 31 by omega)]
    refine zk_T.adv 3 (f' := (24, [(0, .ref 69), (1, .int m), (2, .int (nI j))], [.int (m + 1), .int (v 75 (10 + j))])) (h' := zH v w t) rfl ?_
    refine zk_T.br (f1 := (27, [(0, .ref 69), (1, .int m), (2, .int (nI j))], [])) (f2 := (29, [(0, .ref 69), (1, .int m), (2, .int (nI j))], [])) rfl (fun c2 => ?_) (fun c2 => ?_)
    · have c2 : (v 75 (10 + j)) = (m + 1) := of_decide_eq_true c2
      refine zk_T.adv 1 (f' := (28, [(0, .ref 69), (1, .int m), (2, .int (nI j))], [.int (nI j)])) (h' := zH v w t) rfl ?_
      simp only [zl_mgoodInG, zk_or, if_pos c2] at hk
      exact zk_T.rt rfl rfl hk
    · have c2 : ¬ ((v 75 (10 + j)) = (m + 1)) := of_decide_eq_false c2
      refine zk_T.adv 2 (f' := (2, [(0, .ref 69), (1, .int m), (2, .int ((nI j) + 1))], [])) (h' := zH v w t) rfl ?_
      rw [nI_1]
      simp only [zl_mgoodInG, zk_or, if_neg c2] at hk
      exact hk
  · have hz := True.intro
    show zk_T zk_mt zk_ex Ls xs zm_48 (2, [(0, .ref 69), (1, .int m), (2, .int (nI (0 + Gn)))], []) (zH v w t) q
    refine zk_T.adv 4 (f' := (8, [(0, .ref 69), (1, .int m), (2, .int (nI (0 + Gn)))], [.int 3, .ref 72, .int (nI (0 + Gn))])) (h' := zH v w t) rfl ?_
    refine zk_T.ob (f' := (9, [(0, .ref 69), (1, .int m), (2, .int (nI (0 + Gn)))], [.int (v 71 (3 : Int32).toNatClampNeg), .int (nI (0 + Gn))])) (h' := zH v w t) rfl rfl ?_
    show zk_T zk_mt zk_ex Ls xs zm_48 (9, [(0, .ref 69), (1, .int m), (2, .int (nI (0 + Gn)))], [.int (v 71 3), .int (nI (0 + Gn))]) (zH v w t) _
    refine zk_T.br (f1 := (35, [(0, .ref 69), (1, .int m), (2, .int (nI (0 + Gn)))], [])) (f2 := (12, [(0, .ref 69), (1, .int m), (2, .int (nI (0 + Gn)))], [])) rfl (fun c1 => ?_) (fun c1 => absurd (by rw [show _ = nI Gn from hG, Nat.zero_add]; exact nI_le (Nat.le_refl _) (by omega)) (of_decide_eq_false c1))
    exact hk
  · exact trivial
def zr_mgoodIn (Gn : Nat) (st : Nat → Int32) (m : Int32) : Int32 := match zfr (zl_mgoodInG (st) m) Gn 0 () with | .inl s => (-2) | .inr r => r
/-- BasketKeepModel.goodIn -/
theorem zs_mgoodIn (Gn : Nat) (hG : v 71 3 = nI Gn) (h4 : Gn ≤ 4) (m : Int32) : zk_Cr zk_mt zk_ex Ls xs 48 [.ref 69, .int m] (zH v w t) (some (.int (zr_mgoodIn Gn (v 75) m)), zH v w t) := by
  refine zk_Cr.of (K := zm_48) rfl rfl rfl ?_
  show zk_T zk_mt zk_ex Ls xs zm_48 (0, [(0, .ref 69), (1, .int m)], []) (zH v w t) _
  refine zk_T.adv 2 (f' := (2, [(0, .ref 69), (1, .int m), (2, .int 0)], [])) (h' := zH v w t) rfl ?_
  refine zl_mgoodIn (v := v) (w := w) (t := t) Gn hG h4 m () _ ?_
  cases z1 : zfr (zl_mgoodInG (v 75) m) Gn 0 () with
  | inl s =>
    show zk_T zk_mt zk_ex Ls xs zm_48 (35, [(0, .ref 69), (1, .int m), (2, .int (nI (0 + Gn)))], []) (zH v w t) _
    refine zk_T.adv 1 (f' := (37, [(0, .ref 69), (1, .int m), (2, .int (nI (0 + Gn)))], [.int (-2)])) (h' := zH v w t) rfl ?_
    exact zk_T.rt rfl rfl (by simp only [zr_mgoodIn, z1])
  | inr r =>
    show ((some (Value.int r), zH v w t) : Option Value × zk_H) = _
    simp only [zr_mgoodIn, z1]
def zl_misTakenG (st : Nat → Int32) (m : Int32) (g : Int32) (j : Nat) (s : Unit) : (Unit) ⊕ Int32 := match s with
  | () => if (nI j) = g then .inl () else (if (st (10 + j)) = (m + 1) then if (zr_mhasBit (st 14) (nI j)) = 0 then .inr 1 else .inl () else .inl ())
theorem zl_misTaken (Gn : Nat) (hG : v 71 3 = nI Gn) (h4 : Gn ≤ 4) (m : Int32) (g : Int32) : ∀ (s : Unit) (q : Option Value × zk_H), zk_or (fun (s : Unit) => zk_T zk_mt zk_ex Ls xs zm_120 (54, [(0, .ref 69), (1, .int m), (2, .int g), (3, .int (nI (0 + Gn)))], []) (zH v w t) q) (fun (r : Int32) => (some (.int r), zH v w t) = q) (zfr (zl_misTakenG (v 75) m g) Gn 0 s) → zk_T zk_mt zk_ex Ls xs zm_120 (2, [(0, .ref 69), (1, .int m), (2, .int g), (3, .int (nI 0))], []) (zH v w t) q := by
  intro s q hk
  refine zk_forX (M := zm_120) (fun j (s : Unit) => (2, [(0, .ref 69), (1, .int m), (2, .int g), (3, .int (nI j))], [])) (fun _ (s : Unit) => zH v w t) (zl_misTakenG (v 75) m g) (fun _ _ => True) (fun (s : Unit) => (54, [(0, .ref 69), (1, .int m), (2, .int g), (3, .int (nI (0 + Gn)))], [])) (fun (s : Unit) => zH v w t) (fun r q => (some (.int r), zH v w t) = q) (Gn) 0 s (fun _ _ _ _ _ _ _ => trivial) (fun j s hj1 hj2 hp q hk => ?_) (fun s hp q hk => ?_) ?_ q hk
  · have hz := True.intro
    show zk_T zk_mt zk_ex Ls xs zm_120 (2, [(0, .ref 69), (1, .int m), (2, .int g), (3, .int (nI j))], []) (zH v w t) q
    refine zk_T.adv 4 (f' := (8, [(0, .ref 69), (1, .int m), (2, .int g), (3, .int (nI j))], [.int 3, .ref 72, .int (nI j)])) (h' := zH v w t) rfl ?_
    refine zk_T.ob (f' := (9, [(0, .ref 69), (1, .int m), (2, .int g), (3, .int (nI j))], [.int (v 71 (3 : Int32).toNatClampNeg), .int (nI j)])) (h' := zH v w t) rfl rfl ?_
    show zk_T zk_mt zk_ex Ls xs zm_120 (9, [(0, .ref 69), (1, .int m), (2, .int g), (3, .int (nI j))], [.int (v 71 3), .int (nI j)]) (zH v w t) _
    refine zk_T.br (f1 := (54, [(0, .ref 69), (1, .int m), (2, .int g), (3, .int (nI j))], [])) (f2 := (12, [(0, .ref 69), (1, .int m), (2, .int g), (3, .int (nI j))], [])) rfl (fun c1 => absurd (of_decide_eq_true c1) (by rw [show _ = nI Gn from hG]; exact nI_ge (show j < Gn by omega) (by omega))) (fun c1 => ?_)
    refine zk_T.adv 2 (f' := (14, [(0, .ref 69), (1, .int m), (2, .int g), (3, .int (nI j))], [.int g, .int (nI j)])) (h' := zH v w t) rfl ?_
    refine zk_T.br (f1 := (48, [(0, .ref 69), (1, .int m), (2, .int g), (3, .int (nI j))], [])) (f2 := (17, [(0, .ref 69), (1, .int m), (2, .int g), (3, .int (nI j))], [])) rfl (fun c2 => ?_) (fun c2 => ?_)
    · have c2 : (nI j) = g := of_decide_eq_true c2
      refine zk_T.adv 2 (f' := (2, [(0, .ref 69), (1, .int m), (2, .int g), (3, .int ((nI j) + 1))], [])) (h' := zH v w t) rfl ?_
      rw [nI_1]
      simp only [zl_misTakenG, zk_or, if_pos c2] at hk
      exact hk
    · have c2 : ¬ ((nI j) = g) := of_decide_eq_false c2
      refine zk_T.adv 5 (f' := (25, [(0, .ref 69), (1, .int m), (2, .int g), (3, .int (nI j))], [.int (10 + (nI j)), .ref 76])) (h' := zH v w t) rfl ?_
      rw [show 10 + (nI j) = nI (10 + j) from nI_add 10 j]
      refine zk_T.ob (f' := (26, [(0, .ref 69), (1, .int m), (2, .int g), (3, .int (nI j))], [.int (v 75 (nI (10 + j)).toNatClampNeg)])) (h' := zH v w t) rfl (by first | exact zk_inN (by omega) (by decide) | decide) ?_
      rw [nI_clamp (show (10 + j) < 2 ^ 31 by omega)]
      refine zk_T.adv 3 (f' := (29, [(0, .ref 69), (1, .int m), (2, .int g), (3, .int (nI j))], [.int (m + 1), .int (v 75 (10 + j))])) (h' := zH v w t) rfl ?_
      refine zk_T.br (f1 := (32, [(0, .ref 69), (1, .int m), (2, .int g), (3, .int (nI j))], [])) (f2 := (48, [(0, .ref 69), (1, .int m), (2, .int g), (3, .int (nI j))], [])) rfl (fun c3 => ?_) (fun c3 => ?_)
      · have c3 : (v 75 (10 + j)) = (m + 1) := of_decide_eq_true c3
        refine zk_T.adv 3 (f' := (38, [(0, .ref 69), (1, .int m), (2, .int g), (3, .int (nI j))], [.int 14, .ref 76])) (h' := zH v w t) rfl ?_
        refine zk_T.ob (f' := (39, [(0, .ref 69), (1, .int m), (2, .int g), (3, .int (nI j))], [.int (v 75 (14 : Int32).toNatClampNeg)])) (h' := zH v w t) rfl rfl ?_
        show zk_T zk_mt zk_ex Ls xs zm_120 (39, [(0, .ref 69), (1, .int m), (2, .int g), (3, .int (nI j))], [.int (v 75 14)]) (zH v w t) _
        refine zk_T.adv 1 (f' := (40, [(0, .ref 69), (1, .int m), (2, .int g), (3, .int (nI j))], [.int (nI j), .int (v 75 14)])) (h' := zH v w t) rfl ?_
        refine zk_T.cl (v := some (.int (zr_mhasBit (v 75 14) (nI j)))) (h' := zH v w t) rfl (zs_mhasBit (v 75 14) (nI j)) ?_
        show zk_T zk_mt zk_ex Ls xs zm_120 (43, [(0, .ref 69), (1, .int m), (2, .int g), (3, .int (nI j))], [.int (zr_mhasBit (v 75 14) (nI j))]) (zH v w t) _
        refine zk_T.br (f1 := (46, [(0, .ref 69), (1, .int m), (2, .int g), (3, .int (nI j))], [])) (f2 := (48, [(0, .ref 69), (1, .int m), (2, .int g), (3, .int (nI j))], [])) rfl (fun c4 => ?_) (fun c4 => ?_)
        · have c4 : (zr_mhasBit (v 75 14) (nI j)) = 0 := of_decide_eq_true c4
          refine zk_T.adv 1 (f' := (47, [(0, .ref 69), (1, .int m), (2, .int g), (3, .int (nI j))], [.int 1])) (h' := zH v w t) rfl ?_
          simp only [zl_misTakenG, zk_or, if_neg c2, if_pos c3, if_pos c4] at hk
          exact zk_T.rt rfl rfl hk
        · have c4 : ¬ ((zr_mhasBit (v 75 14) (nI j)) = 0) := of_decide_eq_false c4
          refine zk_T.adv 2 (f' := (2, [(0, .ref 69), (1, .int m), (2, .int g), (3, .int ((nI j) + 1))], [])) (h' := zH v w t) rfl ?_
          rw [nI_1]
          simp only [zl_misTakenG, zk_or, if_neg c2, if_pos c3, if_neg c4] at hk
          exact hk
      · have c3 : ¬ ((v 75 (10 + j)) = (m + 1)) := of_decide_eq_false c3
        refine zk_T.adv 2 (f' := (2, [(0, .ref 69), (1, .int m), (2, .int g), (3, .int ((nI j) + 1))], [])) (h' := zH v w t) rfl ?_
        rw [nI_1]
        simp only [zl_misTakenG, zk_or, if_neg c2, if_neg c3] at hk
        exact hk
  · have hz := True.intro
    show zk_T zk_mt zk_ex Ls xs zm_120 (2, [(0, .ref 69), (1, .int m), (2, .int g), (3, .int (nI (0 + Gn)))], []) (zH v w t) q
    refine zk_T.adv 4 (f' := (8, [(0, .ref 69), (1, .int m), (2, .int g), (3, .int (nI (0 + Gn)))], [.int 3, .ref 72, .int (nI (0 + Gn))])) (h' := zH v w t) rfl ?_
    refine zk_T.ob (f' := (9, [(0, .ref 69), (1, .int m), (2, .int g), (3, .int (nI (0 + Gn)))], [.int (v 71 (3 : Int32).toNatClampNeg), .int (nI (0 + Gn))])) (h' := zH v w t) rfl rfl ?_
    show zk_T zk_mt zk_ex Ls xs zm_120 (9, [(0, .ref 69), (1, .int m), (2, .int g), (3, .int (nI (0 + Gn)))], [.int (v 71 3), .int (nI (0 + Gn))]) (zH v w t) _
    refine zk_T.br (f1 := (54, [(0, .ref 69), (1, .int m), (2, .int g), (3, .int (nI (0 + Gn)))], [])) (f2 := (12, [(0, .ref 69), (1, .int m), (2, .int g), (3, .int (nI (0 + Gn)))], [])) rfl (fun c1 => ?_) (fun c1 => absurd (by rw [show _ = nI Gn from hG, Nat.zero_add]; exact nI_le (Nat.le_refl _) (by omega)) (of_decide_eq_false c1))
    exact hk
  · exact trivial
def zr_misTaken (Gn : Nat) (st : Nat → Int32) (m : Int32) (g : Int32) : Int32 := match zfr (zl_misTakenG (st) m g) Gn 0 () with | .inl s => 0 | .inr r => r
/-- BasketKeepModel.isTaken -/
theorem zs_misTaken (Gn : Nat) (hG : v 71 3 = nI Gn) (h4 : Gn ≤ 4) (m : Int32) (g : Int32) : zk_Cr zk_mt zk_ex Ls xs 120 [.ref 69, .int m, .int g] (zH v w t) (some (.int (zr_misTaken Gn (v 75) m g)), zH v w t) := by
  refine zk_Cr.of (K := zm_120) rfl rfl rfl ?_
  show zk_T zk_mt zk_ex Ls xs zm_120 (0, [(0, .ref 69), (1, .int m), (2, .int g)], []) (zH v w t) _
  refine zk_T.adv 2 (f' := (2, [(0, .ref 69), (1, .int m), (2, .int g), (3, .int 0)], [])) (h' := zH v w t) rfl ?_
  refine zl_misTaken (v := v) (w := w) (t := t) Gn hG h4 m g () _ ?_
  cases z1 : zfr (zl_misTakenG (v 75) m g) Gn 0 () with
  | inl s =>
    show zk_T zk_mt zk_ex Ls xs zm_120 (54, [(0, .ref 69), (1, .int m), (2, .int g), (3, .int (nI (0 + Gn)))], []) (zH v w t) _
    refine zk_T.adv 1 (f' := (55, [(0, .ref 69), (1, .int m), (2, .int g), (3, .int (nI (0 + Gn)))], [.int 0])) (h' := zH v w t) rfl ?_
    exact zk_T.rt rfl rfl (by simp only [zr_misTaken, z1])
  | inr r =>
    show ((some (Value.int r), zH v w t) : Option Value × zk_H) = _
    simp only [zr_misTaken, z1]
def zl_mlaidManyG (st : Nat → Int32) (j : Nat) (s : Int32) : Int32 := match s with
  | a => if (st (10 + j)) ≤ 0 then a + 0 else a + 1
theorem zl_mlaidMany (Gn : Nat) (hG : v 71 3 = nI Gn) (h4 : Gn ≤ 4) : ∀ (s : Int32) (q : Option Value × zk_H), zk_T zk_mt zk_ex Ls xs zm_54 ((fun (s : Int32) => ((40, [(0, .ref 69), (1, .int s), (2, .int (nI (0 + Gn)))], []) : zk_F)) (zf (zl_mlaidManyG (v 75) ) Gn 0 s)) ((fun (s : Int32) => zH v w t) (zf (zl_mlaidManyG (v 75) ) Gn 0 s)) q → zk_T zk_mt zk_ex Ls xs zm_54 (4, [(0, .ref 69), (1, .int s), (2, .int (nI 0))], []) (zH v w t) q := by
  intro s q hk
  refine zk_forK (M := zm_54) (fun j (s : Int32) => (4, [(0, .ref 69), (1, .int s), (2, .int (nI j))], [])) (fun _ (s : Int32) => zH v w t) (zl_mlaidManyG (v 75) ) (fun _ _ => True) (fun (s : Int32) => (40, [(0, .ref 69), (1, .int s), (2, .int (nI (0 + Gn)))], [])) (fun (s : Int32) => zH v w t) (Gn) 0 s (fun _ _ _ _ _ => trivial) (fun j s hj1 hj2 hp q hk => ?_) (fun s hp q hk => ?_) ?_ q hk
  · have hz := True.intro
    obtain ⟨a, rfl⟩ : ∃ z, z = s := ⟨_, rfl⟩
    show zk_T zk_mt zk_ex Ls xs zm_54 (4, [(0, .ref 69), (1, .int a), (2, .int (nI j))], []) (zH v w t) q
    refine zk_T.adv 4 (f' := (10, [(0, .ref 69), (1, .int a), (2, .int (nI j))], [.int 3, .ref 72, .int (nI j)])) (h' := zH v w t) rfl ?_
    refine zk_T.ob (f' := (11, [(0, .ref 69), (1, .int a), (2, .int (nI j))], [.int (v 71 (3 : Int32).toNatClampNeg), .int (nI j)])) (h' := zH v w t) rfl rfl ?_
    show zk_T zk_mt zk_ex Ls xs zm_54 (11, [(0, .ref 69), (1, .int a), (2, .int (nI j))], [.int (v 71 3), .int (nI j)]) (zH v w t) _
    refine zk_T.br (f1 := (40, [(0, .ref 69), (1, .int a), (2, .int (nI j))], [])) (f2 := (14, [(0, .ref 69), (1, .int a), (2, .int (nI j))], [])) rfl (fun c1 => absurd (of_decide_eq_true c1) (by rw [show _ = nI Gn from hG]; exact nI_ge (show j < Gn by omega) (by omega))) (fun c1 => ?_)
    refine zk_T.adv 6 (f' := (23, [(0, .ref 69), (1, .int a), (2, .int (nI j))], [.int (10 + (nI j)), .ref 76, .int a])) (h' := zH v w t) rfl ?_
    rw [show 10 + (nI j) = nI (10 + j) from nI_add 10 j]
    refine zk_T.ob (f' := (24, [(0, .ref 69), (1, .int a), (2, .int (nI j))], [.int (v 75 (nI (10 + j)).toNatClampNeg), .int a])) (h' := zH v w t) rfl (by first | exact zk_inN (by omega) (by decide) | decide) ?_
    rw [nI_clamp (show (10 + j) < 2 ^ 31 by omega)]
    refine zk_T.br (f1 := (31, [(0, .ref 69), (1, .int a), (2, .int (nI j))], [.int a])) (f2 := (27, [(0, .ref 69), (1, .int a), (2, .int (nI j))], [.int a])) rfl (fun c2 => ?_) (fun c2 => ?_)
    · have c2 : (v 75 (10 + j)) ≤ 0 := of_decide_eq_true c2
      refine zk_T.adv 5 (f' := (4, [(0, .ref 69), (1, .int (a + 0)), (2, .int ((nI j) + 1))], [])) (h' := zH v w t) rfl ?_
      rw [nI_1]
      simp only [zl_mlaidManyG, if_pos c2] at hk
      exact hk
    · have c2 : ¬ ((v 75 (10 + j)) ≤ 0) := of_decide_eq_false c2
      refine zk_T.adv 6 (f' := (4, [(0, .ref 69), (1, .int (a + 1)), (2, .int ((nI j) + 1))], [])) (h' := zH v w t) rfl ?_
      rw [nI_1]
      simp only [zl_mlaidManyG, if_neg c2] at hk
      exact hk
  · have hz := True.intro
    obtain ⟨a, rfl⟩ : ∃ z, z = s := ⟨_, rfl⟩
    show zk_T zk_mt zk_ex Ls xs zm_54 (4, [(0, .ref 69), (1, .int a), (2, .int (nI (0 + Gn)))], []) (zH v w t) q
    refine zk_T.adv 4 (f' := (10, [(0, .ref 69), (1, .int a), (2, .int (nI (0 + Gn)))], [.int 3, .ref 72, .int (nI (0 + Gn))])) (h' := zH v w t) rfl ?_
    refine zk_T.ob (f' := (11, [(0, .ref 69), (1, .int a), (2, .int (nI (0 + Gn)))], [.int (v 71 (3 : Int32).toNatClampNeg), .int (nI (0 + Gn))])) (h' := zH v w t) rfl rfl ?_
    show zk_T zk_mt zk_ex Ls xs zm_54 (11, [(0, .ref 69), (1, .int a), (2, .int (nI (0 + Gn)))], [.int (v 71 3), .int (nI (0 + Gn))]) (zH v w t) _
    refine zk_T.br (f1 := (40, [(0, .ref 69), (1, .int a), (2, .int (nI (0 + Gn)))], [])) (f2 := (14, [(0, .ref 69), (1, .int a), (2, .int (nI (0 + Gn)))], [])) rfl (fun c1 => ?_) (fun c1 => absurd (by rw [show _ = nI Gn from hG, Nat.zero_add]; exact nI_le (Nat.le_refl _) (by omega)) (of_decide_eq_false c1))
    exact hk
  · exact trivial
def zr_mlaidMany (Gn : Nat) (st : Nat → Int32) : Int32 := (zf (zl_mlaidManyG (st) ) Gn 0 0)
/-- BasketKeepModel.laidMany -/
theorem zs_mlaidMany (Gn : Nat) (hG : v 71 3 = nI Gn) (h4 : Gn ≤ 4) : zk_Cr zk_mt zk_ex Ls xs 54 [.ref 69] (zH v w t) (some (.int (zr_mlaidMany Gn (v 75) )), zH v w t) := by
  refine zk_Cr.of (K := zm_54) rfl rfl rfl ?_
  show zk_T zk_mt zk_ex Ls xs zm_54 (0, [(0, .ref 69)], []) (zH v w t) _
  refine zk_T.adv 4 (f' := (4, [(0, .ref 69), (1, .int 0), (2, .int 0)], [])) (h' := zH v w t) rfl ?_
  refine zl_mlaidMany (v := v) (w := w) (t := t) Gn hG h4  0 _ ?_
  show zk_T zk_mt zk_ex Ls xs zm_54 (40, [(0, .ref 69), (1, .int (zf (zl_mlaidManyG (v 75) ) Gn 0 0)), (2, .int (nI (0 + Gn)))], []) (zH v w t) _
  refine zk_T.adv 1 (f' := (41, [(0, .ref 69), (1, .int (zf (zl_mlaidManyG (v 75) ) Gn 0 0)), (2, .int (nI (0 + Gn)))], [.int (zf (zl_mlaidManyG (v 75) ) Gn 0 0)])) (h' := zH v w t) rfl ?_
  exact zk_T.rt rfl rfl (by rfl)
def zr_misX (lv cnt x : Int32) : Int32 := if lv = 0 then 0 else (if (zr_mwithin x 0 (cnt - 1)) = 0 then 0 else 1)
/-- BasketKeepModel.isDanger -/
theorem zs_misDanger (x : Int32) : zk_Cr zk_mt zk_ex Ls xs 116 [.ref 69, .int x] (zH v w t) (some (.int (zr_misX (v 68 14) (v 71 1) x)), zH v w t) := by
  refine zk_Cr.of (K := zm_116) rfl rfl rfl ?_
  show zk_T zk_mt zk_ex Ls xs zm_116 (0, [(0, .ref 69), (1, .int x)], []) (zH v w t) _
  refine zk_T.adv 2 (f' := (4, [(0, .ref 69), (1, .int x)], [.int (v 68 14)])) (h' := zH v w t) rfl ?_
  refine zk_T.br (f1 := (27, [(0, .ref 69), (1, .int x)], [])) (f2 := (7, [(0, .ref 69), (1, .int x)], [])) rfl (fun c1 => ?_) (fun c1 => ?_)
  · have c1 : (v 68 14) = 0 := of_decide_eq_true c1
    refine zk_T.adv 1 (f' := (28, [(0, .ref 69), (1, .int x)], [.int 0])) (h' := zH v w t) rfl ?_
    exact zk_T.rt rfl rfl (by simp only [zr_misX, if_pos c1])
  · have c1 : ¬ ((v 68 14) = 0) := of_decide_eq_false c1
    refine zk_T.adv 5 (f' := (14, [(0, .ref 69), (1, .int x)], [.int 1, .ref 72, .int 0, .int x])) (h' := zH v w t) rfl ?_
    refine zk_T.ob (f' := (15, [(0, .ref 69), (1, .int x)], [.int (v 71 (1 : Int32).toNatClampNeg), .int 0, .int x])) (h' := zH v w t) rfl rfl ?_
    show zk_T zk_mt zk_ex Ls xs zm_116 (15, [(0, .ref 69), (1, .int x)], [.int (v 71 1), .int 0, .int x]) (zH v w t) _
    refine zk_T.adv 2 (f' := (17, [(0, .ref 69), (1, .int x)], [.int ((v 71 1) - 1), .int 0, .int x])) (h' := zH v w t) rfl ?_
    refine zk_T.cl (v := some (.int (zr_mwithin x 0 ((v 71 1) - 1)))) (h' := zH v w t) rfl (zs_mwithin x 0 ((v 71 1) - 1)) ?_
    show zk_T zk_mt zk_ex Ls xs zm_116 (20, [(0, .ref 69), (1, .int x)], [.int (zr_mwithin x 0 ((v 71 1) - 1))]) (zH v w t) _
    refine zk_T.br (f1 := (27, [(0, .ref 69), (1, .int x)], [])) (f2 := (23, [(0, .ref 69), (1, .int x)], [])) rfl (fun c2 => ?_) (fun c2 => ?_)
    · have c2 : (zr_mwithin x 0 ((v 71 1) - 1)) = 0 := of_decide_eq_true c2
      refine zk_T.adv 1 (f' := (28, [(0, .ref 69), (1, .int x)], [.int 0])) (h' := zH v w t) rfl ?_
      exact zk_T.rt rfl rfl (by simp only [zr_misX, if_neg c1, if_pos c2])
    · have c2 : ¬ ((zr_mwithin x 0 ((v 71 1) - 1)) = 0) := of_decide_eq_false c2
      refine zk_T.adv 2 (f' := (28, [(0, .ref 69), (1, .int x)], [.int 1])) (h' := zH v w t) rfl ?_
      exact zk_T.rt rfl rfl (by simp only [zr_misX, if_neg c1, if_neg c2])
/-- BasketKeepModel.isMaker -/
theorem zs_misMaker (x : Int32) : zk_Cr zk_mt zk_ex Ls xs 118 [.ref 69, .int x] (zH v w t) (some (.int (zr_misX (v 68 14) (v 71 2) x)), zH v w t) := by
  refine zk_Cr.of (K := zm_118) rfl rfl rfl ?_
  show zk_T zk_mt zk_ex Ls xs zm_118 (0, [(0, .ref 69), (1, .int x)], []) (zH v w t) _
  refine zk_T.adv 2 (f' := (4, [(0, .ref 69), (1, .int x)], [.int (v 68 14)])) (h' := zH v w t) rfl ?_
  refine zk_T.br (f1 := (27, [(0, .ref 69), (1, .int x)], [])) (f2 := (7, [(0, .ref 69), (1, .int x)], [])) rfl (fun c1 => ?_) (fun c1 => ?_)
  · have c1 : (v 68 14) = 0 := of_decide_eq_true c1
    refine zk_T.adv 1 (f' := (28, [(0, .ref 69), (1, .int x)], [.int 0])) (h' := zH v w t) rfl ?_
    exact zk_T.rt rfl rfl (by simp only [zr_misX, if_pos c1])
  · have c1 : ¬ ((v 68 14) = 0) := of_decide_eq_false c1
    refine zk_T.adv 5 (f' := (14, [(0, .ref 69), (1, .int x)], [.int 2, .ref 72, .int 0, .int x])) (h' := zH v w t) rfl ?_
    refine zk_T.ob (f' := (15, [(0, .ref 69), (1, .int x)], [.int (v 71 (2 : Int32).toNatClampNeg), .int 0, .int x])) (h' := zH v w t) rfl rfl ?_
    show zk_T zk_mt zk_ex Ls xs zm_118 (15, [(0, .ref 69), (1, .int x)], [.int (v 71 2), .int 0, .int x]) (zH v w t) _
    refine zk_T.adv 2 (f' := (17, [(0, .ref 69), (1, .int x)], [.int ((v 71 2) - 1), .int 0, .int x])) (h' := zH v w t) rfl ?_
    refine zk_T.cl (v := some (.int (zr_mwithin x 0 ((v 71 2) - 1)))) (h' := zH v w t) rfl (zs_mwithin x 0 ((v 71 2) - 1)) ?_
    show zk_T zk_mt zk_ex Ls xs zm_118 (20, [(0, .ref 69), (1, .int x)], [.int (zr_mwithin x 0 ((v 71 2) - 1))]) (zH v w t) _
    refine zk_T.br (f1 := (27, [(0, .ref 69), (1, .int x)], [])) (f2 := (23, [(0, .ref 69), (1, .int x)], [])) rfl (fun c2 => ?_) (fun c2 => ?_)
    · have c2 : (zr_mwithin x 0 ((v 71 2) - 1)) = 0 := of_decide_eq_true c2
      refine zk_T.adv 1 (f' := (28, [(0, .ref 69), (1, .int x)], [.int 0])) (h' := zH v w t) rfl ?_
      exact zk_T.rt rfl rfl (by simp only [zr_misX, if_neg c1, if_pos c2])
    · have c2 : ¬ ((zr_mwithin x 0 ((v 71 2) - 1)) = 0) := of_decide_eq_false c2
      refine zk_T.adv 2 (f' := (28, [(0, .ref 69), (1, .int x)], [.int 1])) (h' := zH v w t) rfl ?_
      exact zk_T.rt rfl rfl (by simp only [zr_misX, if_neg c1, if_neg c2])
/-- BasketKeepModel.isGood -/
theorem zs_misGood (x : Int32) : zk_Cr zk_mt zk_ex Ls xs 117 [.ref 69, .int x] (zH v w t) (some (.int (zr_misX (v 68 14) (v 71 3) x)), zH v w t) := by
  refine zk_Cr.of (K := zm_117) rfl rfl rfl ?_
  show zk_T zk_mt zk_ex Ls xs zm_117 (0, [(0, .ref 69), (1, .int x)], []) (zH v w t) _
  refine zk_T.adv 2 (f' := (4, [(0, .ref 69), (1, .int x)], [.int (v 68 14)])) (h' := zH v w t) rfl ?_
  refine zk_T.br (f1 := (27, [(0, .ref 69), (1, .int x)], [])) (f2 := (7, [(0, .ref 69), (1, .int x)], [])) rfl (fun c1 => ?_) (fun c1 => ?_)
  · have c1 : (v 68 14) = 0 := of_decide_eq_true c1
    refine zk_T.adv 1 (f' := (28, [(0, .ref 69), (1, .int x)], [.int 0])) (h' := zH v w t) rfl ?_
    exact zk_T.rt rfl rfl (by simp only [zr_misX, if_pos c1])
  · have c1 : ¬ ((v 68 14) = 0) := of_decide_eq_false c1
    refine zk_T.adv 5 (f' := (14, [(0, .ref 69), (1, .int x)], [.int 3, .ref 72, .int 0, .int x])) (h' := zH v w t) rfl ?_
    refine zk_T.ob (f' := (15, [(0, .ref 69), (1, .int x)], [.int (v 71 (3 : Int32).toNatClampNeg), .int 0, .int x])) (h' := zH v w t) rfl rfl ?_
    show zk_T zk_mt zk_ex Ls xs zm_117 (15, [(0, .ref 69), (1, .int x)], [.int (v 71 3), .int 0, .int x]) (zH v w t) _
    refine zk_T.adv 2 (f' := (17, [(0, .ref 69), (1, .int x)], [.int ((v 71 3) - 1), .int 0, .int x])) (h' := zH v w t) rfl ?_
    refine zk_T.cl (v := some (.int (zr_mwithin x 0 ((v 71 3) - 1)))) (h' := zH v w t) rfl (zs_mwithin x 0 ((v 71 3) - 1)) ?_
    show zk_T zk_mt zk_ex Ls xs zm_117 (20, [(0, .ref 69), (1, .int x)], [.int (zr_mwithin x 0 ((v 71 3) - 1))]) (zH v w t) _
    refine zk_T.br (f1 := (27, [(0, .ref 69), (1, .int x)], [])) (f2 := (23, [(0, .ref 69), (1, .int x)], [])) rfl (fun c2 => ?_) (fun c2 => ?_)
    · have c2 : (zr_mwithin x 0 ((v 71 3) - 1)) = 0 := of_decide_eq_true c2
      refine zk_T.adv 1 (f' := (28, [(0, .ref 69), (1, .int x)], [.int 0])) (h' := zH v w t) rfl ?_
      exact zk_T.rt rfl rfl (by simp only [zr_misX, if_neg c1, if_pos c2])
    · have c2 : ¬ ((zr_mwithin x 0 ((v 71 3) - 1)) = 0) := of_decide_eq_false c2
      refine zk_T.adv 2 (f' := (28, [(0, .ref 69), (1, .int x)], [.int 1])) (h' := zH v w t) rfl ?_
      exact zk_T.rt rfl rfl (by simp only [zr_misX, if_neg c1, if_neg c2])
def zl_mweaveG (k : Int32) (j : Nat) (s : Int64 × Int64) : Int64 × Int64 := match s with
  | (a, b) => (b, (((k - 1 : Int32).toInt64) * a) + (((k - 2 : Int32).toInt64) * b))
theorem zl_mweave (n : Nat) (hn : n ≤ 18) (k : Int32) : ∀ (s : Int64 × Int64) (q : Option Value × zk_H), zk_T zk_mt zk_ex Ls xs zm_64 ((fun (s : Int64 × Int64) => ((43, [(0, .int (nI n)), (1, .int k), (2, .long s.1), (4, .long s.2), (6, .int (nI (1 + (n - 1))))], []) : zk_F)) (zf (zl_mweaveG k) (n - 1) 1 s)) ((fun (s : Int64 × Int64) => zH v w t) (zf (zl_mweaveG k) (n - 1) 1 s)) q → zk_T zk_mt zk_ex Ls xs zm_64 (8, [(0, .int (nI n)), (1, .int k), (2, .long s.1), (4, .long s.2), (6, .int (nI 1))], []) (zH v w t) q := by
  intro s q hk
  refine zk_forK (M := zm_64) (fun j (s : Int64 × Int64) => (8, [(0, .int (nI n)), (1, .int k), (2, .long s.1), (4, .long s.2), (6, .int (nI j))], [])) (fun _ (s : Int64 × Int64) => zH v w t) (zl_mweaveG k) (fun _ _ => True) (fun (s : Int64 × Int64) => (43, [(0, .int (nI n)), (1, .int k), (2, .long s.1), (4, .long s.2), (6, .int (nI (1 + (n - 1))))], [])) (fun (s : Int64 × Int64) => zH v w t) ((n - 1)) 1 s (fun _ _ _ _ _ => trivial) (fun j s hj1 hj2 hp q hk => ?_) (fun s hp q hk => ?_) ?_ q hk
  · obtain ⟨a, b⟩ := s
    show zk_T zk_mt zk_ex Ls xs zm_64 (8, [(0, .int (nI n)), (1, .int k), (2, .long a), (4, .long b), (6, .int (nI j))], []) (zH v w t) q
    refine zk_T.adv 2 (f' := (11, [(0, .int (nI n)), (1, .int k), (2, .long a), (4, .long b), (6, .int (nI j))], [.int (nI n), .int (nI j)])) (h' := zH v w t) rfl ?_
    refine zk_T.br (f1 := (43, [(0, .int (nI n)), (1, .int k), (2, .long a), (4, .long b), (6, .int (nI j))], [])) (f2 := (14, [(0, .int (nI n)), (1, .int k), (2, .long a), (4, .long b), (6, .int (nI j))], [])) rfl (fun c1 => absurd (of_decide_eq_true c1) (nI_ge (show j < n by omega) (by omega))) (fun c1 => ?_)
    refine zk_T.adv 20 (f' := (8, [(0, .int (nI n)), (1, .int k), (2, .long b), (4, .long ((((k - 1 : Int32).toInt64) * a) + (((k - 2 : Int32).toInt64) * b))), (6, .int ((nI j) + 1))], [])) (h' := zH v w t) rfl ?_
    rw [nI_1]
    simp only [zl_mweaveG] at hk
    exact hk
  · obtain ⟨a, b⟩ := s
    show zk_T zk_mt zk_ex Ls xs zm_64 (8, [(0, .int (nI n)), (1, .int k), (2, .long a), (4, .long b), (6, .int (nI (1 + (n - 1))))], []) (zH v w t) q
    refine zk_T.adv 2 (f' := (11, [(0, .int (nI n)), (1, .int k), (2, .long a), (4, .long b), (6, .int (nI (1 + (n - 1))))], [.int (nI n), .int (nI (1 + (n - 1)))])) (h' := zH v w t) rfl ?_
    refine zk_T.br (f1 := (43, [(0, .int (nI n)), (1, .int k), (2, .long a), (4, .long b), (6, .int (nI (1 + (n - 1))))], [])) (f2 := (14, [(0, .int (nI n)), (1, .int k), (2, .long a), (4, .long b), (6, .int (nI (1 + (n - 1))))], [])) rfl (fun c1 => ?_) (fun c1 => absurd (nI_le (show n ≤ 1 + (n - 1) by omega) (by omega)) (of_decide_eq_false c1))
    exact hk
  · exact trivial
def zr_mweave (n : Nat) (k : Int32) : Int64 := ((zf (zl_mweaveG k) (n - 1) 1 (1, 0)).2)
/-- BasketKeepModel.weaveOf -/
theorem zs_mweaveOf (n : Nat) (hn : n ≤ 18) (k : Int32) : zk_Cr zk_mt zk_ex Ls xs 64 [.int (nI n), .int k] (zH v w t) (some (.long (zr_mweave n k)), zH v w t) := by
  refine zk_Cr.of (K := zm_64) rfl rfl rfl ?_
  show zk_T zk_mt zk_ex Ls xs zm_64 (0, [(0, .int (nI n)), (1, .int k)], []) (zH v w t) _
  refine zk_T.adv 6 (f' := (8, [(0, .int (nI n)), (1, .int k), (2, .long 1), (4, .long 0), (6, .int 1)], [])) (h' := zH v w t) rfl ?_
  refine zl_mweave (v := v) (w := w) (t := t) n hn k (1, 0) _ ?_
  show zk_T zk_mt zk_ex Ls xs zm_64 (43, [(0, .int (nI n)), (1, .int k), (2, .long ((zf (zl_mweaveG k) (n - 1) 1 (1, 0)).1)), (4, .long ((zf (zl_mweaveG k) (n - 1) 1 (1, 0)).2)), (6, .int (nI (1 + (n - 1))))], []) (zH v w t) _
  refine zk_T.adv 1 (f' := (45, [(0, .int (nI n)), (1, .int k), (2, .long ((zf (zl_mweaveG k) (n - 1) 1 (1, 0)).1)), (4, .long ((zf (zl_mweaveG k) (n - 1) 1 (1, 0)).2)), (6, .int (nI (1 + (n - 1))))], [.long ((zf (zl_mweaveG k) (n - 1) 1 (1, 0)).2)])) (h' := zH v w t) rfl ?_
  exact zk_T.rt rfl rfl (by rfl)
def zr_mweaveWhy (lv n k : Int32) : Int32 := if (zr_mwithin n 2 18) = 0 then (zr_mwhy lv 0) else (if (zr_mwithin k 1 9) = 0 then (zr_mwhy lv 0) else (zr_mwhy lv 1))
/-- BasketKeepModel.weaveWhy -/
theorem zs_mweaveWhy (n k : Int32) : zk_Cr zk_mt zk_ex Ls xs 131 [.ref 69, .int n, .int k] (zH v w t) (some (.int (zr_mweaveWhy (v 68 14) n k)), zH v w t) := by
  refine zk_Cr.of (K := zm_131) rfl rfl rfl ?_
  show zk_T zk_mt zk_ex Ls xs zm_131 (0, [(0, .ref 69), (1, .int n), (2, .int k)], []) (zH v w t) _
  refine zk_T.adv 6 (f' := (9, [(0, .ref 69), (1, .int n), (2, .int k)], [.int 18, .int 2, .int n, .int (v 68 14), .ref 69])) (h' := zH v w t) rfl ?_
  refine zk_T.cl (v := some (.int (zr_mwithin n 2 18))) (h' := zH v w t) rfl (zs_mwithin n 2 18) ?_
  show zk_T zk_mt zk_ex Ls xs zm_131 (12, [(0, .ref 69), (1, .int n), (2, .int k)], [.int (zr_mwithin n 2 18), .int (v 68 14), .ref 69]) (zH v w t) _
  refine zk_T.br (f1 := (29, [(0, .ref 69), (1, .int n), (2, .int k)], [.int (v 68 14), .ref 69])) (f2 := (15, [(0, .ref 69), (1, .int n), (2, .int k)], [.int (v 68 14), .ref 69])) rfl (fun c1 => ?_) (fun c1 => ?_)
  · have c1 : (zr_mwithin n 2 18) = 0 := of_decide_eq_true c1
    refine zk_T.adv 1 (f' := (30, [(0, .ref 69), (1, .int n), (2, .int k)], [.int 0, .int (v 68 14), .ref 69])) (h' := zH v w t) rfl ?_
    refine zk_T.cl (v := some (.int (zr_mwhy (v 68 14) 0))) (h' := zH v w t) rfl (zs_mwhy (v 68 14) 0) ?_
    show zk_T zk_mt zk_ex Ls xs zm_131 (33, [(0, .ref 69), (1, .int n), (2, .int k)], [.int (zr_mwhy (v 68 14) 0)]) (zH v w t) _
    exact zk_T.rt rfl rfl (by simp only [zr_mweaveWhy, if_pos c1])
  · have c1 : ¬ ((zr_mwithin n 2 18) = 0) := of_decide_eq_false c1
    refine zk_T.adv 3 (f' := (19, [(0, .ref 69), (1, .int n), (2, .int k)], [.int 9, .int 1, .int k, .int (v 68 14), .ref 69])) (h' := zH v w t) rfl ?_
    refine zk_T.cl (v := some (.int (zr_mwithin k 1 9))) (h' := zH v w t) rfl (zs_mwithin k 1 9) ?_
    show zk_T zk_mt zk_ex Ls xs zm_131 (22, [(0, .ref 69), (1, .int n), (2, .int k)], [.int (zr_mwithin k 1 9), .int (v 68 14), .ref 69]) (zH v w t) _
    refine zk_T.br (f1 := (29, [(0, .ref 69), (1, .int n), (2, .int k)], [.int (v 68 14), .ref 69])) (f2 := (25, [(0, .ref 69), (1, .int n), (2, .int k)], [.int (v 68 14), .ref 69])) rfl (fun c2 => ?_) (fun c2 => ?_)
    · have c2 : (zr_mwithin k 1 9) = 0 := of_decide_eq_true c2
      refine zk_T.adv 1 (f' := (30, [(0, .ref 69), (1, .int n), (2, .int k)], [.int 0, .int (v 68 14), .ref 69])) (h' := zH v w t) rfl ?_
      refine zk_T.cl (v := some (.int (zr_mwhy (v 68 14) 0))) (h' := zH v w t) rfl (zs_mwhy (v 68 14) 0) ?_
      show zk_T zk_mt zk_ex Ls xs zm_131 (33, [(0, .ref 69), (1, .int n), (2, .int k)], [.int (zr_mwhy (v 68 14) 0)]) (zH v w t) _
      exact zk_T.rt rfl rfl (by simp only [zr_mweaveWhy, if_neg c1, if_pos c2])
    · have c2 : ¬ ((zr_mwithin k 1 9) = 0) := of_decide_eq_false c2
      refine zk_T.adv 2 (f' := (30, [(0, .ref 69), (1, .int n), (2, .int k)], [.int 1, .int (v 68 14), .ref 69])) (h' := zH v w t) rfl ?_
      refine zk_T.cl (v := some (.int (zr_mwhy (v 68 14) 1))) (h' := zH v w t) rfl (zs_mwhy (v 68 14) 1) ?_
      show zk_T zk_mt zk_ex Ls xs zm_131 (33, [(0, .ref 69), (1, .int n), (2, .int k)], [.int (zr_mwhy (v 68 14) 1)]) (zH v w t) _
      exact zk_T.rt rfl rfl (by simp only [zr_mweaveWhy, if_neg c1, if_neg c2])
def zl_mrestsG (ru : Int32) (j : Nat) (s : Int32 × Int32) : Int32 × Int32 := match s with
  | (n, fr) => if (nI j) ≤ 1 then if ((nI j) - (nI j) / 2 * 2) = 1 then if (zr_mholdsOf ru 0 1) < (zr_mholdsOf ru 1 1) then (n, fr) else (if (zr_mholdsOf ru 0 0) ≤ (zr_mholdsOf ru 1 0) then if n = 0 then (n + 1, (10 * ((nI j) / 2)) + ((nI j) - (nI j) / 2 * 2)) else (n + 1, fr) else (n, fr)) else (if (zr_mholdsOf ru 0 0) < (zr_mholdsOf ru 1 0) then (n, fr) else (if (zr_mholdsOf ru 1 0) ≤ (zr_mholdsOf ru 0 0) then if n = 0 then (n + 1, (10 * ((nI j) / 2)) + ((nI j) - (nI j) / 2 * 2)) else (n + 1, fr) else (n, fr))) else (if ((nI j) - (nI j) / 2 * 2) = 1 then if (zr_mholdsOf ru 1 1) < (zr_mholdsOf ru 0 1) then (n, fr) else (if (zr_mholdsOf ru 0 1) ≤ (zr_mholdsOf ru 1 1) then if n = 0 then (n + 1, (10 * ((nI j) / 2)) + ((nI j) - (nI j) / 2 * 2)) else (n + 1, fr) else (n, fr)) else (if (zr_mholdsOf ru 1 0) < (zr_mholdsOf ru 0 0) then (n, fr) else (if (zr_mholdsOf ru 1 1) ≤ (zr_mholdsOf ru 0 1) then if n = 0 then (n + 1, (10 * ((nI j) / 2)) + ((nI j) - (nI j) / 2 * 2)) else (n + 1, fr) else (n, fr))))
theorem zl_mrests (ru : Int32) : ∀ (s : Int32 × Int32) (q : Option Value × zk_H), zk_T zk_mt zk_ex Ls xs zm_124 ((fun (s : Int32 × Int32) => ((125, [(0, .ref 69), (1, .int ru), (2, .int s.1), (3, .int (nI (0 + 4)))], []) : zk_F)) (zf (zl_mrestsG ru) 4 0 s)) ((fun (s : Int32 × Int32) => zH (zb v 68 (upd (v 68) 36 s.2)) w t) (zf (zl_mrestsG ru) 4 0 s)) q → zk_T zk_mt zk_ex Ls xs zm_124 (10, [(0, .ref 69), (1, .int ru), (2, .int s.1), (3, .int (nI 0))], []) (zH (zb v 68 (upd (v 68) 36 s.2)) w t) q := by
  intro s q hk
  refine zk_forK (M := zm_124) (fun j (s : Int32 × Int32) => (10, [(0, .ref 69), (1, .int ru), (2, .int s.1), (3, .int (nI j))], [])) (fun _ (s : Int32 × Int32) => zH (zb v 68 (upd (v 68) 36 s.2)) w t) (zl_mrestsG ru) (fun _ _ => True) (fun (s : Int32 × Int32) => (125, [(0, .ref 69), (1, .int ru), (2, .int s.1), (3, .int (nI (0 + 4)))], [])) (fun (s : Int32 × Int32) => zH (zb v 68 (upd (v 68) 36 s.2)) w t) (4) 0 s (fun _ _ _ _ _ => trivial) (fun j s hj1 hj2 hp q hk => ?_) (fun s hp q hk => ?_) ?_ q hk
  · obtain ⟨n, fr⟩ := s
    show zk_T zk_mt zk_ex Ls xs zm_124 (10, [(0, .ref 69), (1, .int ru), (2, .int n), (3, .int (nI j))], []) (zH (zb v 68 (upd (v 68) 36 fr)) w t) q
    refine zk_T.adv 2 (f' := (12, [(0, .ref 69), (1, .int ru), (2, .int n), (3, .int (nI j))], [.int 4, .int (nI j)])) (h' := zH (zb v 68 (upd (v 68) 36 fr)) w t) rfl ?_
    refine zk_T.br (f1 := (125, [(0, .ref 69), (1, .int ru), (2, .int n), (3, .int (nI j))], [])) (f2 := (15, [(0, .ref 69), (1, .int ru), (2, .int n), (3, .int (nI j))], [])) rfl (fun c1 => absurd (of_decide_eq_true c1) (show ¬ 4 ≤ nI j from nI_ge (by omega) (by decide))) (fun c1 => ?_)
    refine zk_T.adv 2 (f' := (17, [(0, .ref 69), (1, .int ru), (2, .int n), (3, .int (nI j))], [.int 1, .int (nI j)])) (h' := zH (zb v 68 (upd (v 68) 36 fr)) w t) rfl ?_
    refine zk_T.br (f1 := (24, [(0, .ref 69), (1, .int ru), (2, .int n), (3, .int (nI j))], [])) (f2 := (20, [(0, .ref 69), (1, .int ru), (2, .int n), (3, .int (nI j))], [])) rfl (fun c2 => ?_) (fun c2 => ?_)
    · have c2 : (nI j) ≤ 1 := of_decide_eq_true c2
      refine zk_T.adv 4 (f' := (29, [(0, .ref 69), (1, .int ru), (2, .int n), (3, .int (nI j)), (4, .int 0)], [.int 2, .int (nI j)])) (h' := zH (zb v 68 (upd (v 68) 36 fr)) w t) rfl ?_
      refine zk_T.ob (f' := (30, [(0, .ref 69), (1, .int ru), (2, .int n), (3, .int (nI j)), (4, .int 0)], [.int ((nI j) - (nI j) / 2 * 2)])) (h' := zH (zb v 68 (upd (v 68) 36 fr)) w t) rfl (by decide) ?_
      refine zk_T.adv 1 (f' := (31, [(0, .ref 69), (1, .int ru), (2, .int n), (3, .int (nI j)), (4, .int 0)], [.int 1, .int ((nI j) - (nI j) / 2 * 2)])) (h' := zH (zb v 68 (upd (v 68) 36 fr)) w t) rfl ?_
      refine zk_T.br (f1 := (34, [(0, .ref 69), (1, .int ru), (2, .int n), (3, .int (nI j)), (4, .int 0)], [])) (f2 := (38, [(0, .ref 69), (1, .int ru), (2, .int n), (3, .int (nI j)), (4, .int 0)], [])) rfl (fun c3 => ?_) (fun c3 => ?_)
      · have c3 : ((nI j) - (nI j) / 2 * 2) = 1 := of_decide_eq_true c3
        refine zk_T.adv 5 (f' := (44, [(0, .ref 69), (1, .int ru), (2, .int n), (3, .int (nI j)), (4, .int 0), (5, .int 1)], [.int 0, .int ru])) (h' := zH (zb v 68 (upd (v 68) 36 fr)) w t) rfl ?_
        refine zk_T.br (f1 := (47, [(0, .ref 69), (1, .int ru), (2, .int n), (3, .int (nI j)), (4, .int 0), (5, .int 1)], [.int ru])) (f2 := (51, [(0, .ref 69), (1, .int ru), (2, .int n), (3, .int (nI j)), (4, .int 0), (5, .int 1)], [.int ru])) rfl (fun c4 => ?_) (fun c4 => absurd (by decide) (of_decide_eq_false c4))
        refine zk_T.adv 3 (f' := (54, [(0, .ref 69), (1, .int ru), (2, .int n), (3, .int (nI j)), (4, .int 0), (5, .int 1)], [.int 1, .int 1, .int ru])) (h' := zH (zb v 68 (upd (v 68) 36 fr)) w t) rfl ?_
        refine zk_T.cl (v := some (.int (zr_mholdsOf ru 1 1))) (h' := zH (zb v 68 (upd (v 68) 36 fr)) w t) rfl (zs_mholdsOf ru 1 1) ?_
        show zk_T zk_mt zk_ex Ls xs zm_124 (57, [(0, .ref 69), (1, .int ru), (2, .int n), (3, .int (nI j)), (4, .int 0), (5, .int 1)], [.int (zr_mholdsOf ru 1 1)]) (zH (zb v 68 (upd (v 68) 36 fr)) w t) _
        refine zk_T.adv 3 (f' := (62, [(0, .ref 69), (1, .int ru), (2, .int n), (3, .int (nI j)), (4, .int 0), (5, .int 1)], [.int 1, .int 0, .int ru, .int (zr_mholdsOf ru 1 1)])) (h' := zH (zb v 68 (upd (v 68) 36 fr)) w t) rfl ?_
        refine zk_T.cl (v := some (.int (zr_mholdsOf ru 0 1))) (h' := zH (zb v 68 (upd (v 68) 36 fr)) w t) rfl (zs_mholdsOf ru 0 1) ?_
        show zk_T zk_mt zk_ex Ls xs zm_124 (65, [(0, .ref 69), (1, .int ru), (2, .int n), (3, .int (nI j)), (4, .int 0), (5, .int 1)], [.int (zr_mholdsOf ru 0 1), .int (zr_mholdsOf ru 1 1)]) (zH (zb v 68 (upd (v 68) 36 fr)) w t) _
        refine zk_T.br (f1 := (119, [(0, .ref 69), (1, .int ru), (2, .int n), (3, .int (nI j)), (4, .int 0), (5, .int 1)], [])) (f2 := (68, [(0, .ref 69), (1, .int ru), (2, .int n), (3, .int (nI j)), (4, .int 0), (5, .int 1)], [])) rfl (fun c5 => ?_) (fun c5 => ?_)
        · have c5 : (zr_mholdsOf ru 0 1) < (zr_mholdsOf ru 1 1) := of_decide_eq_true c5
          refine zk_T.adv 2 (f' := (10, [(0, .ref 69), (1, .int ru), (2, .int n), (3, .int ((nI j) + 1))], [])) (h' := zH (zb v 68 (upd (v 68) 36 fr)) w t) rfl ?_
          rw [nI_1]
          simp only [zl_mrestsG, if_pos c2, if_pos c3, if_pos c5] at hk
          exact hk
        · have c5 : ¬ ((zr_mholdsOf ru 0 1) < (zr_mholdsOf ru 1 1)) := of_decide_eq_false c5
          refine zk_T.adv 2 (f' := (71, [(0, .ref 69), (1, .int ru), (2, .int n), (3, .int (nI j)), (4, .int 0), (5, .int 1)], [.int 1, .int ru])) (h' := zH (zb v 68 (upd (v 68) 36 fr)) w t) rfl ?_
          refine zk_T.br (f1 := (74, [(0, .ref 69), (1, .int ru), (2, .int n), (3, .int (nI j)), (4, .int 0), (5, .int 1)], [.int ru])) (f2 := (78, [(0, .ref 69), (1, .int ru), (2, .int n), (3, .int (nI j)), (4, .int 0), (5, .int 1)], [.int ru])) rfl (fun c6 => absurd (of_decide_eq_true c6) (by decide)) (fun c6 => ?_)
          refine zk_T.adv 2 (f' := (81, [(0, .ref 69), (1, .int ru), (2, .int n), (3, .int (nI j)), (4, .int 0), (5, .int 1)], [.int 0, .int 0, .int ru])) (h' := zH (zb v 68 (upd (v 68) 36 fr)) w t) rfl ?_
          refine zk_T.cl (v := some (.int (zr_mholdsOf ru 0 0))) (h' := zH (zb v 68 (upd (v 68) 36 fr)) w t) rfl (zs_mholdsOf ru 0 0) ?_
          show zk_T zk_mt zk_ex Ls xs zm_124 (84, [(0, .ref 69), (1, .int ru), (2, .int n), (3, .int (nI j)), (4, .int 0), (5, .int 1)], [.int (zr_mholdsOf ru 0 0)]) (zH (zb v 68 (upd (v 68) 36 fr)) w t) _
          refine zk_T.adv 3 (f' := (89, [(0, .ref 69), (1, .int ru), (2, .int n), (3, .int (nI j)), (4, .int 0), (5, .int 1)], [.int 0, .int 1, .int ru, .int (zr_mholdsOf ru 0 0)])) (h' := zH (zb v 68 (upd (v 68) 36 fr)) w t) rfl ?_
          refine zk_T.cl (v := some (.int (zr_mholdsOf ru 1 0))) (h' := zH (zb v 68 (upd (v 68) 36 fr)) w t) rfl (zs_mholdsOf ru 1 0) ?_
          show zk_T zk_mt zk_ex Ls xs zm_124 (92, [(0, .ref 69), (1, .int ru), (2, .int n), (3, .int (nI j)), (4, .int 0), (5, .int 1)], [.int (zr_mholdsOf ru 1 0), .int (zr_mholdsOf ru 0 0)]) (zH (zb v 68 (upd (v 68) 36 fr)) w t) _
          refine zk_T.br (f1 := (98, [(0, .ref 69), (1, .int ru), (2, .int n), (3, .int (nI j)), (4, .int 0), (5, .int 1)], [])) (f2 := (95, [(0, .ref 69), (1, .int ru), (2, .int n), (3, .int (nI j)), (4, .int 0), (5, .int 1)], [])) rfl (fun c7 => ?_) (fun c7 => ?_)
          · have c7 : (zr_mholdsOf ru 0 0) ≤ (zr_mholdsOf ru 1 0) := of_decide_eq_true c7
            refine zk_T.adv 1 (f' := (99, [(0, .ref 69), (1, .int ru), (2, .int n), (3, .int (nI j)), (4, .int 0), (5, .int 1)], [.int n])) (h' := zH (zb v 68 (upd (v 68) 36 fr)) w t) rfl ?_
            refine zk_T.br (f1 := (102, [(0, .ref 69), (1, .int ru), (2, .int n), (3, .int (nI j)), (4, .int 0), (5, .int 1)], [])) (f2 := (116, [(0, .ref 69), (1, .int ru), (2, .int n), (3, .int (nI j)), (4, .int 0), (5, .int 1)], [])) rfl (fun c8 => ?_) (fun c8 => ?_)
            · have c8 : n = 0 := of_decide_eq_true c8
              refine zk_T.adv 4 (f' := (107, [(0, .ref 69), (1, .int ru), (2, .int n), (3, .int (nI j)), (4, .int 0), (5, .int 1)], [.int 2, .int (nI j), .int 10, .ref 69])) (h' := zH (zb v 68 (upd (v 68) 36 fr)) w t) rfl ?_
              refine zk_T.ob (f' := (108, [(0, .ref 69), (1, .int ru), (2, .int n), (3, .int (nI j)), (4, .int 0), (5, .int 1)], [.int ((nI j) / 2), .int 10, .ref 69])) (h' := zH (zb v 68 (upd (v 68) 36 fr)) w t) rfl (by decide) ?_
              refine zk_T.adv 3 (f' := (111, [(0, .ref 69), (1, .int ru), (2, .int n), (3, .int (nI j)), (4, .int 0), (5, .int 1)], [.int 2, .int (nI j), .int (10 * ((nI j) / 2)), .ref 69])) (h' := zH (zb v 68 (upd (v 68) 36 fr)) w t) rfl ?_
              refine zk_T.ob (f' := (112, [(0, .ref 69), (1, .int ru), (2, .int n), (3, .int (nI j)), (4, .int 0), (5, .int 1)], [.int ((nI j) - (nI j) / 2 * 2), .int (10 * ((nI j) / 2)), .ref 69])) (h' := zH (zb v 68 (upd (v 68) 36 fr)) w t) rfl (by decide) ?_
              refine zk_T.adv 5 (f' := (10, [(0, .ref 69), (1, .int ru), (2, .int (n + 1)), (3, .int ((nI j) + 1))], [])) (h' := zH (zb v 68 (upd (v 68) 36 ((10 * ((nI j) / 2)) + ((nI j) - (nI j) / 2 * 2)))) w t) rfl ?_
              rw [nI_1]
              simp only [zl_mrestsG, if_pos c2, if_pos c3, if_neg c5, if_pos c7, if_pos c8] at hk
              exact hk
            · have c8 : ¬ (n = 0) := of_decide_eq_false c8
              refine zk_T.adv 3 (f' := (10, [(0, .ref 69), (1, .int ru), (2, .int (n + 1)), (3, .int ((nI j) + 1))], [])) (h' := zH (zb v 68 (upd (v 68) 36 fr)) w t) rfl ?_
              rw [nI_1]
              simp only [zl_mrestsG, if_pos c2, if_pos c3, if_neg c5, if_pos c7, if_neg c8] at hk
              exact hk
          · have c7 : ¬ ((zr_mholdsOf ru 0 0) ≤ (zr_mholdsOf ru 1 0)) := of_decide_eq_false c7
            refine zk_T.adv 3 (f' := (10, [(0, .ref 69), (1, .int ru), (2, .int n), (3, .int ((nI j) + 1))], [])) (h' := zH (zb v 68 (upd (v 68) 36 fr)) w t) rfl ?_
            rw [nI_1]
            simp only [zl_mrestsG, if_pos c2, if_pos c3, if_neg c5, if_neg c7] at hk
            exact hk
      · have c3 : ¬ (((nI j) - (nI j) / 2 * 2) = 1) := of_decide_eq_false c3
        refine zk_T.adv 4 (f' := (44, [(0, .ref 69), (1, .int ru), (2, .int n), (3, .int (nI j)), (4, .int 0), (5, .int 0)], [.int 0, .int ru])) (h' := zH (zb v 68 (upd (v 68) 36 fr)) w t) rfl ?_
        refine zk_T.br (f1 := (47, [(0, .ref 69), (1, .int ru), (2, .int n), (3, .int (nI j)), (4, .int 0), (5, .int 0)], [.int ru])) (f2 := (51, [(0, .ref 69), (1, .int ru), (2, .int n), (3, .int (nI j)), (4, .int 0), (5, .int 0)], [.int ru])) rfl (fun c9 => ?_) (fun c9 => absurd (by decide) (of_decide_eq_false c9))
        refine zk_T.adv 3 (f' := (54, [(0, .ref 69), (1, .int ru), (2, .int n), (3, .int (nI j)), (4, .int 0), (5, .int 0)], [.int 0, .int 1, .int ru])) (h' := zH (zb v 68 (upd (v 68) 36 fr)) w t) rfl ?_
        refine zk_T.cl (v := some (.int (zr_mholdsOf ru 1 0))) (h' := zH (zb v 68 (upd (v 68) 36 fr)) w t) rfl (zs_mholdsOf ru 1 0) ?_
        show zk_T zk_mt zk_ex Ls xs zm_124 (57, [(0, .ref 69), (1, .int ru), (2, .int n), (3, .int (nI j)), (4, .int 0), (5, .int 0)], [.int (zr_mholdsOf ru 1 0)]) (zH (zb v 68 (upd (v 68) 36 fr)) w t) _
        refine zk_T.adv 3 (f' := (62, [(0, .ref 69), (1, .int ru), (2, .int n), (3, .int (nI j)), (4, .int 0), (5, .int 0)], [.int 0, .int 0, .int ru, .int (zr_mholdsOf ru 1 0)])) (h' := zH (zb v 68 (upd (v 68) 36 fr)) w t) rfl ?_
        refine zk_T.cl (v := some (.int (zr_mholdsOf ru 0 0))) (h' := zH (zb v 68 (upd (v 68) 36 fr)) w t) rfl (zs_mholdsOf ru 0 0) ?_
        show zk_T zk_mt zk_ex Ls xs zm_124 (65, [(0, .ref 69), (1, .int ru), (2, .int n), (3, .int (nI j)), (4, .int 0), (5, .int 0)], [.int (zr_mholdsOf ru 0 0), .int (zr_mholdsOf ru 1 0)]) (zH (zb v 68 (upd (v 68) 36 fr)) w t) _
        refine zk_T.br (f1 := (119, [(0, .ref 69), (1, .int ru), (2, .int n), (3, .int (nI j)), (4, .int 0), (5, .int 0)], [])) (f2 := (68, [(0, .ref 69), (1, .int ru), (2, .int n), (3, .int (nI j)), (4, .int 0), (5, .int 0)], [])) rfl (fun c10 => ?_) (fun c10 => ?_)
        · have c10 : (zr_mholdsOf ru 0 0) < (zr_mholdsOf ru 1 0) := of_decide_eq_true c10
          refine zk_T.adv 2 (f' := (10, [(0, .ref 69), (1, .int ru), (2, .int n), (3, .int ((nI j) + 1))], [])) (h' := zH (zb v 68 (upd (v 68) 36 fr)) w t) rfl ?_
          rw [nI_1]
          simp only [zl_mrestsG, if_pos c2, if_neg c3, if_pos c10] at hk
          exact hk
        · have c10 : ¬ ((zr_mholdsOf ru 0 0) < (zr_mholdsOf ru 1 0)) := of_decide_eq_false c10
          refine zk_T.adv 2 (f' := (71, [(0, .ref 69), (1, .int ru), (2, .int n), (3, .int (nI j)), (4, .int 0), (5, .int 0)], [.int 0, .int ru])) (h' := zH (zb v 68 (upd (v 68) 36 fr)) w t) rfl ?_
          refine zk_T.br (f1 := (74, [(0, .ref 69), (1, .int ru), (2, .int n), (3, .int (nI j)), (4, .int 0), (5, .int 0)], [.int ru])) (f2 := (78, [(0, .ref 69), (1, .int ru), (2, .int n), (3, .int (nI j)), (4, .int 0), (5, .int 0)], [.int ru])) rfl (fun c11 => ?_) (fun c11 => absurd (by decide) (of_decide_eq_false c11))
          refine zk_T.adv 3 (f' := (81, [(0, .ref 69), (1, .int ru), (2, .int n), (3, .int (nI j)), (4, .int 0), (5, .int 0)], [.int 0, .int 1, .int ru])) (h' := zH (zb v 68 (upd (v 68) 36 fr)) w t) rfl ?_
          refine zk_T.cl (v := some (.int (zr_mholdsOf ru 1 0))) (h' := zH (zb v 68 (upd (v 68) 36 fr)) w t) rfl (zs_mholdsOf ru 1 0) ?_
          show zk_T zk_mt zk_ex Ls xs zm_124 (84, [(0, .ref 69), (1, .int ru), (2, .int n), (3, .int (nI j)), (4, .int 0), (5, .int 0)], [.int (zr_mholdsOf ru 1 0)]) (zH (zb v 68 (upd (v 68) 36 fr)) w t) _
          refine zk_T.adv 3 (f' := (89, [(0, .ref 69), (1, .int ru), (2, .int n), (3, .int (nI j)), (4, .int 0), (5, .int 0)], [.int 0, .int 0, .int ru, .int (zr_mholdsOf ru 1 0)])) (h' := zH (zb v 68 (upd (v 68) 36 fr)) w t) rfl ?_
          refine zk_T.cl (v := some (.int (zr_mholdsOf ru 0 0))) (h' := zH (zb v 68 (upd (v 68) 36 fr)) w t) rfl (zs_mholdsOf ru 0 0) ?_
          show zk_T zk_mt zk_ex Ls xs zm_124 (92, [(0, .ref 69), (1, .int ru), (2, .int n), (3, .int (nI j)), (4, .int 0), (5, .int 0)], [.int (zr_mholdsOf ru 0 0), .int (zr_mholdsOf ru 1 0)]) (zH (zb v 68 (upd (v 68) 36 fr)) w t) _
          refine zk_T.br (f1 := (98, [(0, .ref 69), (1, .int ru), (2, .int n), (3, .int (nI j)), (4, .int 0), (5, .int 0)], [])) (f2 := (95, [(0, .ref 69), (1, .int ru), (2, .int n), (3, .int (nI j)), (4, .int 0), (5, .int 0)], [])) rfl (fun c12 => ?_) (fun c12 => ?_)
          · have c12 : (zr_mholdsOf ru 1 0) ≤ (zr_mholdsOf ru 0 0) := of_decide_eq_true c12
            refine zk_T.adv 1 (f' := (99, [(0, .ref 69), (1, .int ru), (2, .int n), (3, .int (nI j)), (4, .int 0), (5, .int 0)], [.int n])) (h' := zH (zb v 68 (upd (v 68) 36 fr)) w t) rfl ?_
            refine zk_T.br (f1 := (102, [(0, .ref 69), (1, .int ru), (2, .int n), (3, .int (nI j)), (4, .int 0), (5, .int 0)], [])) (f2 := (116, [(0, .ref 69), (1, .int ru), (2, .int n), (3, .int (nI j)), (4, .int 0), (5, .int 0)], [])) rfl (fun c13 => ?_) (fun c13 => ?_)
            · have c13 : n = 0 := of_decide_eq_true c13
              refine zk_T.adv 4 (f' := (107, [(0, .ref 69), (1, .int ru), (2, .int n), (3, .int (nI j)), (4, .int 0), (5, .int 0)], [.int 2, .int (nI j), .int 10, .ref 69])) (h' := zH (zb v 68 (upd (v 68) 36 fr)) w t) rfl ?_
              refine zk_T.ob (f' := (108, [(0, .ref 69), (1, .int ru), (2, .int n), (3, .int (nI j)), (4, .int 0), (5, .int 0)], [.int ((nI j) / 2), .int 10, .ref 69])) (h' := zH (zb v 68 (upd (v 68) 36 fr)) w t) rfl (by decide) ?_
              refine zk_T.adv 3 (f' := (111, [(0, .ref 69), (1, .int ru), (2, .int n), (3, .int (nI j)), (4, .int 0), (5, .int 0)], [.int 2, .int (nI j), .int (10 * ((nI j) / 2)), .ref 69])) (h' := zH (zb v 68 (upd (v 68) 36 fr)) w t) rfl ?_
              refine zk_T.ob (f' := (112, [(0, .ref 69), (1, .int ru), (2, .int n), (3, .int (nI j)), (4, .int 0), (5, .int 0)], [.int ((nI j) - (nI j) / 2 * 2), .int (10 * ((nI j) / 2)), .ref 69])) (h' := zH (zb v 68 (upd (v 68) 36 fr)) w t) rfl (by decide) ?_
              refine zk_T.adv 5 (f' := (10, [(0, .ref 69), (1, .int ru), (2, .int (n + 1)), (3, .int ((nI j) + 1))], [])) (h' := zH (zb v 68 (upd (v 68) 36 ((10 * ((nI j) / 2)) + ((nI j) - (nI j) / 2 * 2)))) w t) rfl ?_
              rw [nI_1]
              simp only [zl_mrestsG, if_pos c2, if_neg c3, if_neg c10, if_pos c12, if_pos c13] at hk
              exact hk
            · have c13 : ¬ (n = 0) := of_decide_eq_false c13
              refine zk_T.adv 3 (f' := (10, [(0, .ref 69), (1, .int ru), (2, .int (n + 1)), (3, .int ((nI j) + 1))], [])) (h' := zH (zb v 68 (upd (v 68) 36 fr)) w t) rfl ?_
              rw [nI_1]
              simp only [zl_mrestsG, if_pos c2, if_neg c3, if_neg c10, if_pos c12, if_neg c13] at hk
              exact hk
          · have c12 : ¬ ((zr_mholdsOf ru 1 0) ≤ (zr_mholdsOf ru 0 0)) := of_decide_eq_false c12
            refine zk_T.adv 3 (f' := (10, [(0, .ref 69), (1, .int ru), (2, .int n), (3, .int ((nI j) + 1))], [])) (h' := zH (zb v 68 (upd (v 68) 36 fr)) w t) rfl ?_
            rw [nI_1]
            simp only [zl_mrestsG, if_pos c2, if_neg c3, if_neg c10, if_neg c12] at hk
            exact hk
    · have c2 : ¬ ((nI j) ≤ 1) := of_decide_eq_false c2
      refine zk_T.adv 5 (f' := (29, [(0, .ref 69), (1, .int ru), (2, .int n), (3, .int (nI j)), (4, .int 1)], [.int 2, .int (nI j)])) (h' := zH (zb v 68 (upd (v 68) 36 fr)) w t) rfl ?_
      refine zk_T.ob (f' := (30, [(0, .ref 69), (1, .int ru), (2, .int n), (3, .int (nI j)), (4, .int 1)], [.int ((nI j) - (nI j) / 2 * 2)])) (h' := zH (zb v 68 (upd (v 68) 36 fr)) w t) rfl (by decide) ?_
      refine zk_T.adv 1 (f' := (31, [(0, .ref 69), (1, .int ru), (2, .int n), (3, .int (nI j)), (4, .int 1)], [.int 1, .int ((nI j) - (nI j) / 2 * 2)])) (h' := zH (zb v 68 (upd (v 68) 36 fr)) w t) rfl ?_
      refine zk_T.br (f1 := (34, [(0, .ref 69), (1, .int ru), (2, .int n), (3, .int (nI j)), (4, .int 1)], [])) (f2 := (38, [(0, .ref 69), (1, .int ru), (2, .int n), (3, .int (nI j)), (4, .int 1)], [])) rfl (fun c14 => ?_) (fun c14 => ?_)
      · have c14 : ((nI j) - (nI j) / 2 * 2) = 1 := of_decide_eq_true c14
        refine zk_T.adv 5 (f' := (44, [(0, .ref 69), (1, .int ru), (2, .int n), (3, .int (nI j)), (4, .int 1), (5, .int 1)], [.int 1, .int ru])) (h' := zH (zb v 68 (upd (v 68) 36 fr)) w t) rfl ?_
        refine zk_T.br (f1 := (47, [(0, .ref 69), (1, .int ru), (2, .int n), (3, .int (nI j)), (4, .int 1), (5, .int 1)], [.int ru])) (f2 := (51, [(0, .ref 69), (1, .int ru), (2, .int n), (3, .int (nI j)), (4, .int 1), (5, .int 1)], [.int ru])) rfl (fun c15 => absurd (of_decide_eq_true c15) (by decide)) (fun c15 => ?_)
        refine zk_T.adv 2 (f' := (54, [(0, .ref 69), (1, .int ru), (2, .int n), (3, .int (nI j)), (4, .int 1), (5, .int 1)], [.int 1, .int 0, .int ru])) (h' := zH (zb v 68 (upd (v 68) 36 fr)) w t) rfl ?_
        refine zk_T.cl (v := some (.int (zr_mholdsOf ru 0 1))) (h' := zH (zb v 68 (upd (v 68) 36 fr)) w t) rfl (zs_mholdsOf ru 0 1) ?_
        show zk_T zk_mt zk_ex Ls xs zm_124 (57, [(0, .ref 69), (1, .int ru), (2, .int n), (3, .int (nI j)), (4, .int 1), (5, .int 1)], [.int (zr_mholdsOf ru 0 1)]) (zH (zb v 68 (upd (v 68) 36 fr)) w t) _
        refine zk_T.adv 3 (f' := (62, [(0, .ref 69), (1, .int ru), (2, .int n), (3, .int (nI j)), (4, .int 1), (5, .int 1)], [.int 1, .int 1, .int ru, .int (zr_mholdsOf ru 0 1)])) (h' := zH (zb v 68 (upd (v 68) 36 fr)) w t) rfl ?_
        refine zk_T.cl (v := some (.int (zr_mholdsOf ru 1 1))) (h' := zH (zb v 68 (upd (v 68) 36 fr)) w t) rfl (zs_mholdsOf ru 1 1) ?_
        show zk_T zk_mt zk_ex Ls xs zm_124 (65, [(0, .ref 69), (1, .int ru), (2, .int n), (3, .int (nI j)), (4, .int 1), (5, .int 1)], [.int (zr_mholdsOf ru 1 1), .int (zr_mholdsOf ru 0 1)]) (zH (zb v 68 (upd (v 68) 36 fr)) w t) _
        refine zk_T.br (f1 := (119, [(0, .ref 69), (1, .int ru), (2, .int n), (3, .int (nI j)), (4, .int 1), (5, .int 1)], [])) (f2 := (68, [(0, .ref 69), (1, .int ru), (2, .int n), (3, .int (nI j)), (4, .int 1), (5, .int 1)], [])) rfl (fun c16 => ?_) (fun c16 => ?_)
        · have c16 : (zr_mholdsOf ru 1 1) < (zr_mholdsOf ru 0 1) := of_decide_eq_true c16
          refine zk_T.adv 2 (f' := (10, [(0, .ref 69), (1, .int ru), (2, .int n), (3, .int ((nI j) + 1))], [])) (h' := zH (zb v 68 (upd (v 68) 36 fr)) w t) rfl ?_
          rw [nI_1]
          simp only [zl_mrestsG, if_neg c2, if_pos c14, if_pos c16] at hk
          exact hk
        · have c16 : ¬ ((zr_mholdsOf ru 1 1) < (zr_mholdsOf ru 0 1)) := of_decide_eq_false c16
          refine zk_T.adv 2 (f' := (71, [(0, .ref 69), (1, .int ru), (2, .int n), (3, .int (nI j)), (4, .int 1), (5, .int 1)], [.int 1, .int ru])) (h' := zH (zb v 68 (upd (v 68) 36 fr)) w t) rfl ?_
          refine zk_T.br (f1 := (74, [(0, .ref 69), (1, .int ru), (2, .int n), (3, .int (nI j)), (4, .int 1), (5, .int 1)], [.int ru])) (f2 := (78, [(0, .ref 69), (1, .int ru), (2, .int n), (3, .int (nI j)), (4, .int 1), (5, .int 1)], [.int ru])) rfl (fun c17 => absurd (of_decide_eq_true c17) (by decide)) (fun c17 => ?_)
          refine zk_T.adv 2 (f' := (81, [(0, .ref 69), (1, .int ru), (2, .int n), (3, .int (nI j)), (4, .int 1), (5, .int 1)], [.int 1, .int 0, .int ru])) (h' := zH (zb v 68 (upd (v 68) 36 fr)) w t) rfl ?_
          refine zk_T.cl (v := some (.int (zr_mholdsOf ru 0 1))) (h' := zH (zb v 68 (upd (v 68) 36 fr)) w t) rfl (zs_mholdsOf ru 0 1) ?_
          show zk_T zk_mt zk_ex Ls xs zm_124 (84, [(0, .ref 69), (1, .int ru), (2, .int n), (3, .int (nI j)), (4, .int 1), (5, .int 1)], [.int (zr_mholdsOf ru 0 1)]) (zH (zb v 68 (upd (v 68) 36 fr)) w t) _
          refine zk_T.adv 3 (f' := (89, [(0, .ref 69), (1, .int ru), (2, .int n), (3, .int (nI j)), (4, .int 1), (5, .int 1)], [.int 1, .int 1, .int ru, .int (zr_mholdsOf ru 0 1)])) (h' := zH (zb v 68 (upd (v 68) 36 fr)) w t) rfl ?_
          refine zk_T.cl (v := some (.int (zr_mholdsOf ru 1 1))) (h' := zH (zb v 68 (upd (v 68) 36 fr)) w t) rfl (zs_mholdsOf ru 1 1) ?_
          show zk_T zk_mt zk_ex Ls xs zm_124 (92, [(0, .ref 69), (1, .int ru), (2, .int n), (3, .int (nI j)), (4, .int 1), (5, .int 1)], [.int (zr_mholdsOf ru 1 1), .int (zr_mholdsOf ru 0 1)]) (zH (zb v 68 (upd (v 68) 36 fr)) w t) _
          refine zk_T.br (f1 := (98, [(0, .ref 69), (1, .int ru), (2, .int n), (3, .int (nI j)), (4, .int 1), (5, .int 1)], [])) (f2 := (95, [(0, .ref 69), (1, .int ru), (2, .int n), (3, .int (nI j)), (4, .int 1), (5, .int 1)], [])) rfl (fun c18 => ?_) (fun c18 => ?_)
          · have c18 : (zr_mholdsOf ru 0 1) ≤ (zr_mholdsOf ru 1 1) := of_decide_eq_true c18
            refine zk_T.adv 1 (f' := (99, [(0, .ref 69), (1, .int ru), (2, .int n), (3, .int (nI j)), (4, .int 1), (5, .int 1)], [.int n])) (h' := zH (zb v 68 (upd (v 68) 36 fr)) w t) rfl ?_
            refine zk_T.br (f1 := (102, [(0, .ref 69), (1, .int ru), (2, .int n), (3, .int (nI j)), (4, .int 1), (5, .int 1)], [])) (f2 := (116, [(0, .ref 69), (1, .int ru), (2, .int n), (3, .int (nI j)), (4, .int 1), (5, .int 1)], [])) rfl (fun c19 => ?_) (fun c19 => ?_)
            · have c19 : n = 0 := of_decide_eq_true c19
              refine zk_T.adv 4 (f' := (107, [(0, .ref 69), (1, .int ru), (2, .int n), (3, .int (nI j)), (4, .int 1), (5, .int 1)], [.int 2, .int (nI j), .int 10, .ref 69])) (h' := zH (zb v 68 (upd (v 68) 36 fr)) w t) rfl ?_
              refine zk_T.ob (f' := (108, [(0, .ref 69), (1, .int ru), (2, .int n), (3, .int (nI j)), (4, .int 1), (5, .int 1)], [.int ((nI j) / 2), .int 10, .ref 69])) (h' := zH (zb v 68 (upd (v 68) 36 fr)) w t) rfl (by decide) ?_
              refine zk_T.adv 3 (f' := (111, [(0, .ref 69), (1, .int ru), (2, .int n), (3, .int (nI j)), (4, .int 1), (5, .int 1)], [.int 2, .int (nI j), .int (10 * ((nI j) / 2)), .ref 69])) (h' := zH (zb v 68 (upd (v 68) 36 fr)) w t) rfl ?_
              refine zk_T.ob (f' := (112, [(0, .ref 69), (1, .int ru), (2, .int n), (3, .int (nI j)), (4, .int 1), (5, .int 1)], [.int ((nI j) - (nI j) / 2 * 2), .int (10 * ((nI j) / 2)), .ref 69])) (h' := zH (zb v 68 (upd (v 68) 36 fr)) w t) rfl (by decide) ?_
              refine zk_T.adv 5 (f' := (10, [(0, .ref 69), (1, .int ru), (2, .int (n + 1)), (3, .int ((nI j) + 1))], [])) (h' := zH (zb v 68 (upd (v 68) 36 ((10 * ((nI j) / 2)) + ((nI j) - (nI j) / 2 * 2)))) w t) rfl ?_
              rw [nI_1]
              simp only [zl_mrestsG, if_neg c2, if_pos c14, if_neg c16, if_pos c18, if_pos c19] at hk
              exact hk
            · have c19 : ¬ (n = 0) := of_decide_eq_false c19
              refine zk_T.adv 3 (f' := (10, [(0, .ref 69), (1, .int ru), (2, .int (n + 1)), (3, .int ((nI j) + 1))], [])) (h' := zH (zb v 68 (upd (v 68) 36 fr)) w t) rfl ?_
              rw [nI_1]
              simp only [zl_mrestsG, if_neg c2, if_pos c14, if_neg c16, if_pos c18, if_neg c19] at hk
              exact hk
          · have c18 : ¬ ((zr_mholdsOf ru 0 1) ≤ (zr_mholdsOf ru 1 1)) := of_decide_eq_false c18
            refine zk_T.adv 3 (f' := (10, [(0, .ref 69), (1, .int ru), (2, .int n), (3, .int ((nI j) + 1))], [])) (h' := zH (zb v 68 (upd (v 68) 36 fr)) w t) rfl ?_
            rw [nI_1]
            simp only [zl_mrestsG, if_neg c2, if_pos c14, if_neg c16, if_neg c18] at hk
            exact hk
      · have c14 : ¬ (((nI j) - (nI j) / 2 * 2) = 1) := of_decide_eq_false c14
        refine zk_T.adv 4 (f' := (44, [(0, .ref 69), (1, .int ru), (2, .int n), (3, .int (nI j)), (4, .int 1), (5, .int 0)], [.int 1, .int ru])) (h' := zH (zb v 68 (upd (v 68) 36 fr)) w t) rfl ?_
        refine zk_T.br (f1 := (47, [(0, .ref 69), (1, .int ru), (2, .int n), (3, .int (nI j)), (4, .int 1), (5, .int 0)], [.int ru])) (f2 := (51, [(0, .ref 69), (1, .int ru), (2, .int n), (3, .int (nI j)), (4, .int 1), (5, .int 0)], [.int ru])) rfl (fun c20 => absurd (of_decide_eq_true c20) (by decide)) (fun c20 => ?_)
        refine zk_T.adv 2 (f' := (54, [(0, .ref 69), (1, .int ru), (2, .int n), (3, .int (nI j)), (4, .int 1), (5, .int 0)], [.int 0, .int 0, .int ru])) (h' := zH (zb v 68 (upd (v 68) 36 fr)) w t) rfl ?_
        refine zk_T.cl (v := some (.int (zr_mholdsOf ru 0 0))) (h' := zH (zb v 68 (upd (v 68) 36 fr)) w t) rfl (zs_mholdsOf ru 0 0) ?_
        show zk_T zk_mt zk_ex Ls xs zm_124 (57, [(0, .ref 69), (1, .int ru), (2, .int n), (3, .int (nI j)), (4, .int 1), (5, .int 0)], [.int (zr_mholdsOf ru 0 0)]) (zH (zb v 68 (upd (v 68) 36 fr)) w t) _
        refine zk_T.adv 3 (f' := (62, [(0, .ref 69), (1, .int ru), (2, .int n), (3, .int (nI j)), (4, .int 1), (5, .int 0)], [.int 0, .int 1, .int ru, .int (zr_mholdsOf ru 0 0)])) (h' := zH (zb v 68 (upd (v 68) 36 fr)) w t) rfl ?_
        refine zk_T.cl (v := some (.int (zr_mholdsOf ru 1 0))) (h' := zH (zb v 68 (upd (v 68) 36 fr)) w t) rfl (zs_mholdsOf ru 1 0) ?_
        show zk_T zk_mt zk_ex Ls xs zm_124 (65, [(0, .ref 69), (1, .int ru), (2, .int n), (3, .int (nI j)), (4, .int 1), (5, .int 0)], [.int (zr_mholdsOf ru 1 0), .int (zr_mholdsOf ru 0 0)]) (zH (zb v 68 (upd (v 68) 36 fr)) w t) _
        refine zk_T.br (f1 := (119, [(0, .ref 69), (1, .int ru), (2, .int n), (3, .int (nI j)), (4, .int 1), (5, .int 0)], [])) (f2 := (68, [(0, .ref 69), (1, .int ru), (2, .int n), (3, .int (nI j)), (4, .int 1), (5, .int 0)], [])) rfl (fun c21 => ?_) (fun c21 => ?_)
        · have c21 : (zr_mholdsOf ru 1 0) < (zr_mholdsOf ru 0 0) := of_decide_eq_true c21
          refine zk_T.adv 2 (f' := (10, [(0, .ref 69), (1, .int ru), (2, .int n), (3, .int ((nI j) + 1))], [])) (h' := zH (zb v 68 (upd (v 68) 36 fr)) w t) rfl ?_
          rw [nI_1]
          simp only [zl_mrestsG, if_neg c2, if_neg c14, if_pos c21] at hk
          exact hk
        · have c21 : ¬ ((zr_mholdsOf ru 1 0) < (zr_mholdsOf ru 0 0)) := of_decide_eq_false c21
          refine zk_T.adv 2 (f' := (71, [(0, .ref 69), (1, .int ru), (2, .int n), (3, .int (nI j)), (4, .int 1), (5, .int 0)], [.int 0, .int ru])) (h' := zH (zb v 68 (upd (v 68) 36 fr)) w t) rfl ?_
          refine zk_T.br (f1 := (74, [(0, .ref 69), (1, .int ru), (2, .int n), (3, .int (nI j)), (4, .int 1), (5, .int 0)], [.int ru])) (f2 := (78, [(0, .ref 69), (1, .int ru), (2, .int n), (3, .int (nI j)), (4, .int 1), (5, .int 0)], [.int ru])) rfl (fun c22 => ?_) (fun c22 => absurd (by decide) (of_decide_eq_false c22))
          refine zk_T.adv 3 (f' := (81, [(0, .ref 69), (1, .int ru), (2, .int n), (3, .int (nI j)), (4, .int 1), (5, .int 0)], [.int 1, .int 1, .int ru])) (h' := zH (zb v 68 (upd (v 68) 36 fr)) w t) rfl ?_
          refine zk_T.cl (v := some (.int (zr_mholdsOf ru 1 1))) (h' := zH (zb v 68 (upd (v 68) 36 fr)) w t) rfl (zs_mholdsOf ru 1 1) ?_
          show zk_T zk_mt zk_ex Ls xs zm_124 (84, [(0, .ref 69), (1, .int ru), (2, .int n), (3, .int (nI j)), (4, .int 1), (5, .int 0)], [.int (zr_mholdsOf ru 1 1)]) (zH (zb v 68 (upd (v 68) 36 fr)) w t) _
          refine zk_T.adv 3 (f' := (89, [(0, .ref 69), (1, .int ru), (2, .int n), (3, .int (nI j)), (4, .int 1), (5, .int 0)], [.int 1, .int 0, .int ru, .int (zr_mholdsOf ru 1 1)])) (h' := zH (zb v 68 (upd (v 68) 36 fr)) w t) rfl ?_
          refine zk_T.cl (v := some (.int (zr_mholdsOf ru 0 1))) (h' := zH (zb v 68 (upd (v 68) 36 fr)) w t) rfl (zs_mholdsOf ru 0 1) ?_
          show zk_T zk_mt zk_ex Ls xs zm_124 (92, [(0, .ref 69), (1, .int ru), (2, .int n), (3, .int (nI j)), (4, .int 1), (5, .int 0)], [.int (zr_mholdsOf ru 0 1), .int (zr_mholdsOf ru 1 1)]) (zH (zb v 68 (upd (v 68) 36 fr)) w t) _
          refine zk_T.br (f1 := (98, [(0, .ref 69), (1, .int ru), (2, .int n), (3, .int (nI j)), (4, .int 1), (5, .int 0)], [])) (f2 := (95, [(0, .ref 69), (1, .int ru), (2, .int n), (3, .int (nI j)), (4, .int 1), (5, .int 0)], [])) rfl (fun c23 => ?_) (fun c23 => ?_)
          · have c23 : (zr_mholdsOf ru 1 1) ≤ (zr_mholdsOf ru 0 1) := of_decide_eq_true c23
            refine zk_T.adv 1 (f' := (99, [(0, .ref 69), (1, .int ru), (2, .int n), (3, .int (nI j)), (4, .int 1), (5, .int 0)], [.int n])) (h' := zH (zb v 68 (upd (v 68) 36 fr)) w t) rfl ?_
            refine zk_T.br (f1 := (102, [(0, .ref 69), (1, .int ru), (2, .int n), (3, .int (nI j)), (4, .int 1), (5, .int 0)], [])) (f2 := (116, [(0, .ref 69), (1, .int ru), (2, .int n), (3, .int (nI j)), (4, .int 1), (5, .int 0)], [])) rfl (fun c24 => ?_) (fun c24 => ?_)
            · have c24 : n = 0 := of_decide_eq_true c24
              refine zk_T.adv 4 (f' := (107, [(0, .ref 69), (1, .int ru), (2, .int n), (3, .int (nI j)), (4, .int 1), (5, .int 0)], [.int 2, .int (nI j), .int 10, .ref 69])) (h' := zH (zb v 68 (upd (v 68) 36 fr)) w t) rfl ?_
              refine zk_T.ob (f' := (108, [(0, .ref 69), (1, .int ru), (2, .int n), (3, .int (nI j)), (4, .int 1), (5, .int 0)], [.int ((nI j) / 2), .int 10, .ref 69])) (h' := zH (zb v 68 (upd (v 68) 36 fr)) w t) rfl (by decide) ?_
              refine zk_T.adv 3 (f' := (111, [(0, .ref 69), (1, .int ru), (2, .int n), (3, .int (nI j)), (4, .int 1), (5, .int 0)], [.int 2, .int (nI j), .int (10 * ((nI j) / 2)), .ref 69])) (h' := zH (zb v 68 (upd (v 68) 36 fr)) w t) rfl ?_
              refine zk_T.ob (f' := (112, [(0, .ref 69), (1, .int ru), (2, .int n), (3, .int (nI j)), (4, .int 1), (5, .int 0)], [.int ((nI j) - (nI j) / 2 * 2), .int (10 * ((nI j) / 2)), .ref 69])) (h' := zH (zb v 68 (upd (v 68) 36 fr)) w t) rfl (by decide) ?_
              refine zk_T.adv 5 (f' := (10, [(0, .ref 69), (1, .int ru), (2, .int (n + 1)), (3, .int ((nI j) + 1))], [])) (h' := zH (zb v 68 (upd (v 68) 36 ((10 * ((nI j) / 2)) + ((nI j) - (nI j) / 2 * 2)))) w t) rfl ?_
              rw [nI_1]
              simp only [zl_mrestsG, if_neg c2, if_neg c14, if_neg c21, if_pos c23, if_pos c24] at hk
              exact hk
            · have c24 : ¬ (n = 0) := of_decide_eq_false c24
              refine zk_T.adv 3 (f' := (10, [(0, .ref 69), (1, .int ru), (2, .int (n + 1)), (3, .int ((nI j) + 1))], [])) (h' := zH (zb v 68 (upd (v 68) 36 fr)) w t) rfl ?_
              rw [nI_1]
              simp only [zl_mrestsG, if_neg c2, if_neg c14, if_neg c21, if_pos c23, if_neg c24] at hk
              exact hk
          · have c23 : ¬ ((zr_mholdsOf ru 1 1) ≤ (zr_mholdsOf ru 0 1)) := of_decide_eq_false c23
            refine zk_T.adv 3 (f' := (10, [(0, .ref 69), (1, .int ru), (2, .int n), (3, .int ((nI j) + 1))], [])) (h' := zH (zb v 68 (upd (v 68) 36 fr)) w t) rfl ?_
            rw [nI_1]
            simp only [zl_mrestsG, if_neg c2, if_neg c14, if_neg c21, if_neg c23] at hk
            exact hk
  · obtain ⟨n, fr⟩ := s
    show zk_T zk_mt zk_ex Ls xs zm_124 (10, [(0, .ref 69), (1, .int ru), (2, .int n), (3, .int (nI (0 + 4)))], []) (zH (zb v 68 (upd (v 68) 36 fr)) w t) q
    refine zk_T.adv 2 (f' := (12, [(0, .ref 69), (1, .int ru), (2, .int n), (3, .int (nI (0 + 4)))], [.int 4, .int (nI (0 + 4))])) (h' := zH (zb v 68 (upd (v 68) 36 fr)) w t) rfl ?_
    refine zk_T.br (f1 := (125, [(0, .ref 69), (1, .int ru), (2, .int n), (3, .int (nI (0 + 4)))], [])) (f2 := (15, [(0, .ref 69), (1, .int ru), (2, .int n), (3, .int (nI (0 + 4)))], [])) rfl (fun c1 => ?_) (fun c1 => absurd (by decide) (of_decide_eq_false c1))
    exact hk
  · exact trivial
def zr_mrests (ru : Int32) : Int32 × Int32 := (((zf (zl_mrestsG ru) 4 0 (0, (-2))).1), (zf (zl_mrestsG ru) 4 0 (0, (-2))).2)
/-- BasketKeepModel.seekRests -/
theorem zs_mseekRests (ru : Int32) : zk_Cr zk_mt zk_ex Ls xs 124 [.ref 69, .int ru] (zH v w t) (some (.int (zr_mrests ru).1), zH (zb v 68 (upd (v 68) 36 ((zr_mrests ru).2))) w t) := by
  refine zk_Cr.of (K := zm_124) rfl rfl rfl ?_
  show zk_T zk_mt zk_ex Ls xs zm_124 (0, [(0, .ref 69), (1, .int ru)], []) (zH v w t) _
  refine zk_T.adv 7 (f' := (10, [(0, .ref 69), (1, .int ru), (2, .int 0), (3, .int 0)], [])) (h' := zH (zb v 68 (upd (v 68) 36 (-2))) w t) rfl ?_
  refine zl_mrests (v := v) (w := w) (t := t) ru (0, (-2)) _ ?_
  show zk_T zk_mt zk_ex Ls xs zm_124 (125, [(0, .ref 69), (1, .int ru), (2, .int ((zf (zl_mrestsG ru) 4 0 (0, (-2))).1)), (3, .int (nI (0 + 4)))], []) (zH (zb v 68 (upd (v 68) 36 ((zf (zl_mrestsG ru) 4 0 (0, (-2))).2))) w t) _
  refine zk_T.adv 1 (f' := (126, [(0, .ref 69), (1, .int ru), (2, .int ((zf (zl_mrestsG ru) 4 0 (0, (-2))).1)), (3, .int (nI (0 + 4)))], [.int ((zf (zl_mrestsG ru) 4 0 (0, (-2))).1)])) (h' := zH (zb v 68 (upd (v 68) 36 ((zf (zl_mrestsG ru) 4 0 (0, (-2))).2))) w t) rfl ?_
  exact zk_T.rt rfl rfl (by simp only [zr_mrests] <;> rfl)
def zl_mdrDG (r st : Nat → Int32) (e : Nat) (j : Nat) (s : Int32 × Int32 × (Nat → Int32)) : Int32 × Int32 × (Nat → Int32) := match s with
  | (dr, mn, slp) => if (zr_mhasBit (st (5 + e)) (nI j)) = 0 then (dr, mn, slp) else (if ((((75 * dr) + 74) - ((75 * dr) + 74) / 65537 * 65537) - (((75 * dr) + 74) - ((75 * dr) + 74) / 65537 * 65537) / 100 * 100) < (r 0) then (((75 * dr) + 74) - ((75 * dr) + 74) / 65537 * 65537, mn + 1, upd slp e ((slp e) ||| ((1 : Int32) <<< ((nI j) &&& 31)))) else (((75 * dr) + 74) - ((75 * dr) + 74) / 65537 * 65537, mn, slp))
theorem zl_mdrD (D : Nat) (hD : v 71 1 = nI D) (h8 : D ≤ 8) (e : Nat) (he : e < 5) : ∀ (s : Int32 × Int32 × (Nat → Int32)) (q : Option Value × zk_H), zk_T zk_mt zk_ex Ls xs zm_111 ((fun (s : Int32 × Int32 × (Nat → Int32)) => ((107, [(0, .ref 69), (2, .int s.1), (3, .int s.2.1), (4, .int (nI e)), (5, .int (nI (0 + D)))], []) : zk_F)) (zf (zl_mdrDG (v 71) (v 75) e) D 0 s)) ((fun (s : Int32 × Int32 × (Nat → Int32)) => zH (zb v 79 s.2.2) w t) (zf (zl_mdrDG (v 71) (v 75) e) D 0 s)) q → zk_T zk_mt zk_ex Ls xs zm_111 (25, [(0, .ref 69), (2, .int s.1), (3, .int s.2.1), (4, .int (nI e)), (5, .int (nI 0))], []) (zH (zb v 79 s.2.2) w t) q := by
  intro s q hk
  refine zk_forK (M := zm_111) (fun j (s : Int32 × Int32 × (Nat → Int32)) => (25, [(0, .ref 69), (2, .int s.1), (3, .int s.2.1), (4, .int (nI e)), (5, .int (nI j))], [])) (fun _ (s : Int32 × Int32 × (Nat → Int32)) => zH (zb v 79 s.2.2) w t) (zl_mdrDG (v 71) (v 75) e) (fun _ _ => True) (fun (s : Int32 × Int32 × (Nat → Int32)) => (107, [(0, .ref 69), (2, .int s.1), (3, .int s.2.1), (4, .int (nI e)), (5, .int (nI (0 + D)))], [])) (fun (s : Int32 × Int32 × (Nat → Int32)) => zH (zb v 79 s.2.2) w t) (D) 0 s (fun _ _ _ _ _ => trivial) (fun j s hj1 hj2 hp q hk => ?_) (fun s hp q hk => ?_) ?_ q hk
  · obtain ⟨dr, mn, slp⟩ := s
    show zk_T zk_mt zk_ex Ls xs zm_111 (25, [(0, .ref 69), (2, .int dr), (3, .int mn), (4, .int (nI e)), (5, .int (nI j))], []) (zH (zb v 79 slp) w t) q
    refine zk_T.adv 4 (f' := (32, [(0, .ref 69), (2, .int dr), (3, .int mn), (4, .int (nI e)), (5, .int (nI j))], [.int 1, .ref 72, .int (nI j)])) (h' := zH (zb v 79 slp) w t) rfl ?_
    refine zk_T.ob (f' := (33, [(0, .ref 69), (2, .int dr), (3, .int mn), (4, .int (nI e)), (5, .int (nI j))], [.int (v 71 (1 : Int32).toNatClampNeg), .int (nI j)])) (h' := zH (zb v 79 slp) w t) rfl rfl ?_
    show zk_T zk_mt zk_ex Ls xs zm_111 (33, [(0, .ref 69), (2, .int dr), (3, .int mn), (4, .int (nI e)), (5, .int (nI j))], [.int (v 71 1), .int (nI j)]) (zH (zb v 79 slp) w t) _
    refine zk_T.br (f1 := (107, [(0, .ref 69), (2, .int dr), (3, .int mn), (4, .int (nI e)), (5, .int (nI j))], [])) (f2 := (36, [(0, .ref 69), (2, .int dr), (3, .int mn), (4, .int (nI e)), (5, .int (nI j))], [])) rfl (fun c1 => absurd (of_decide_eq_true c1) (by rw [show _ = nI D from hD]; exact nI_ge (show j < D by omega) (by omega))) (fun c1 => ?_)
    refine zk_T.adv 5 (f' := (44, [(0, .ref 69), (2, .int dr), (3, .int mn), (4, .int (nI e)), (5, .int (nI j))], [.int (5 + (nI e)), .ref 76])) (h' := zH (zb v 79 slp) w t) rfl ?_
    rw [show 5 + (nI e) = nI (5 + e) from nI_add 5 e]
    refine zk_T.ob (f' := (45, [(0, .ref 69), (2, .int dr), (3, .int mn), (4, .int (nI e)), (5, .int (nI j))], [.int (v 75 (nI (5 + e)).toNatClampNeg)])) (h' := zH (zb v 79 slp) w t) rfl (by first | exact zk_inN (by omega) (by decide) | decide) ?_
    rw [nI_clamp (show (5 + e) < 2 ^ 31 by omega)]
    refine zk_T.adv 1 (f' := (47, [(0, .ref 69), (2, .int dr), (3, .int mn), (4, .int (nI e)), (5, .int (nI j))], [.int (nI j), .int (v 75 (5 + e))])) (h' := zH (zb v 79 slp) w t) rfl ?_
    refine zk_T.cl (v := some (.int (zr_mhasBit (v 75 (5 + e)) (nI j)))) (h' := zH (zb v 79 slp) w t) rfl (zs_mhasBit (v 75 (5 + e)) (nI j)) ?_
    show zk_T zk_mt zk_ex Ls xs zm_111 (50, [(0, .ref 69), (2, .int dr), (3, .int mn), (4, .int (nI e)), (5, .int (nI j))], [.int (zr_mhasBit (v 75 (5 + e)) (nI j))]) (zH (zb v 79 slp) w t) _
    refine zk_T.br (f1 := (53, [(0, .ref 69), (2, .int dr), (3, .int mn), (4, .int (nI e)), (5, .int (nI j))], [])) (f2 := (56, [(0, .ref 69), (2, .int dr), (3, .int mn), (4, .int (nI e)), (5, .int (nI j))], [])) rfl (fun c2 => ?_) (fun c2 => ?_)
    · have c2 : (zr_mhasBit (v 75 (5 + e)) (nI j)) = 0 := of_decide_eq_true c2
      refine zk_T.adv 3 (f' := (25, [(0, .ref 69), (2, .int dr), (3, .int mn), (4, .int (nI e)), (5, .int ((nI j) + 1))], [])) (h' := zH (zb v 79 slp) w t) rfl ?_
      rw [nI_1]
      simp only [zl_mdrDG, if_pos c2] at hk
      exact hk
    · have c2 : ¬ ((zr_mhasBit (v 75 (5 + e)) (nI j)) = 0) := of_decide_eq_false c2
      refine zk_T.adv 6 (f' := (66, [(0, .ref 69), (2, .int dr), (3, .int mn), (4, .int (nI e)), (5, .int (nI j))], [.int 65537, .int ((75 * dr) + 74)])) (h' := zH (zb v 79 slp) w t) rfl ?_
      refine zk_T.ob (f' := (67, [(0, .ref 69), (2, .int dr), (3, .int mn), (4, .int (nI e)), (5, .int (nI j))], [.int (((75 * dr) + 74) - ((75 * dr) + 74) / 65537 * 65537)])) (h' := zH (zb v 79 slp) w t) rfl rfl ?_
      refine zk_T.adv 3 (f' := (71, [(0, .ref 69), (2, .int (((75 * dr) + 74) - ((75 * dr) + 74) / 65537 * 65537)), (3, .int mn), (4, .int (nI e)), (5, .int (nI j))], [.int 100, .int (((75 * dr) + 74) - ((75 * dr) + 74) / 65537 * 65537)])) (h' := zH (zb v 79 slp) w t) rfl ?_
      refine zk_T.ob (f' := (72, [(0, .ref 69), (2, .int (((75 * dr) + 74) - ((75 * dr) + 74) / 65537 * 65537)), (3, .int mn), (4, .int (nI e)), (5, .int (nI j))], [.int ((((75 * dr) + 74) - ((75 * dr) + 74) / 65537 * 65537) - (((75 * dr) + 74) - ((75 * dr) + 74) / 65537 * 65537) / 100 * 100)])) (h' := zH (zb v 79 slp) w t) rfl rfl ?_
      refine zk_T.adv 3 (f' := (77, [(0, .ref 69), (2, .int (((75 * dr) + 74) - ((75 * dr) + 74) / 65537 * 65537)), (3, .int mn), (4, .int (nI e)), (5, .int (nI j))], [.int 0, .ref 72, .int ((((75 * dr) + 74) - ((75 * dr) + 74) / 65537 * 65537) - (((75 * dr) + 74) - ((75 * dr) + 74) / 65537 * 65537) / 100 * 100)])) (h' := zH (zb v 79 slp) w t) rfl ?_
      refine zk_T.ob (f' := (78, [(0, .ref 69), (2, .int (((75 * dr) + 74) - ((75 * dr) + 74) / 65537 * 65537)), (3, .int mn), (4, .int (nI e)), (5, .int (nI j))], [.int (v 71 (0 : Int32).toNatClampNeg), .int ((((75 * dr) + 74) - ((75 * dr) + 74) / 65537 * 65537) - (((75 * dr) + 74) - ((75 * dr) + 74) / 65537 * 65537) / 100 * 100)])) (h' := zH (zb v 79 slp) w t) rfl rfl ?_
      show zk_T zk_mt zk_ex Ls xs zm_111 (78, [(0, .ref 69), (2, .int (((75 * dr) + 74) - ((75 * dr) + 74) / 65537 * 65537)), (3, .int mn), (4, .int (nI e)), (5, .int (nI j))], [.int (v 71 0), .int ((((75 * dr) + 74) - ((75 * dr) + 74) / 65537 * 65537) - (((75 * dr) + 74) - ((75 * dr) + 74) / 65537 * 65537) / 100 * 100)]) (zH (zb v 79 slp) w t) _
      refine zk_T.br (f1 := (84, [(0, .ref 69), (2, .int (((75 * dr) + 74) - ((75 * dr) + 74) / 65537 * 65537)), (3, .int mn), (4, .int (nI e)), (5, .int (nI j))], [])) (f2 := (81, [(0, .ref 69), (2, .int (((75 * dr) + 74) - ((75 * dr) + 74) / 65537 * 65537)), (3, .int mn), (4, .int (nI e)), (5, .int (nI j))], [])) rfl (fun c3 => ?_) (fun c3 => ?_)
      · have c3 : ((((75 * dr) + 74) - ((75 * dr) + 74) / 65537 * 65537) - (((75 * dr) + 74) - ((75 * dr) + 74) / 65537 * 65537) / 100 * 100) < (v 71 0) := of_decide_eq_true c3
        refine zk_T.adv 4 (f' := (91, [(0, .ref 69), (2, .int (((75 * dr) + 74) - ((75 * dr) + 74) / 65537 * 65537)), (3, .int mn), (4, .int (nI e)), (5, .int (nI j))], [.int (nI e), .ref 80, .int (nI e), .ref 80])) (h' := zH (zb v 79 slp) w t) rfl ?_
        refine zk_T.ob (f' := (92, [(0, .ref 69), (2, .int (((75 * dr) + 74) - ((75 * dr) + 74) / 65537 * 65537)), (3, .int mn), (4, .int (nI e)), (5, .int (nI j))], [.int (slp (nI e).toNatClampNeg), .int (nI e), .ref 80])) (h' := zH (zb v 79 slp) w t) rfl (by first | exact zk_inN (by omega) (by decide) | decide) ?_
        rw [nI_clamp (show e < 2 ^ 31 by omega)]
        refine zk_T.adv 4 (f' := (97, [(0, .ref 69), (2, .int (((75 * dr) + 74) - ((75 * dr) + 74) / 65537 * 65537)), (3, .int mn), (4, .int (nI e)), (5, .int (nI j))], [.int ((slp e) ||| ((1 : Int32) <<< ((nI j) &&& 31))), .int (nI e), .ref 80])) (h' := zH (zb v 79 slp) w t) rfl ?_
        refine zk_T.ob (f' := (98, [(0, .ref 69), (2, .int (((75 * dr) + 74) - ((75 * dr) + 74) / 65537 * 65537)), (3, .int mn), (4, .int (nI e)), (5, .int (nI j))], [])) (h' := zH (zb v 79 (upd slp (nI e).toNatClampNeg ((slp e) ||| ((1 : Int32) <<< ((nI j) &&& 31))))) w t) rfl (by first | exact zk_inN (by omega) (by decide) | decide) ?_
        rw [nI_clamp (show e < 2 ^ 31 by omega)]
        refine zk_T.adv 3 (f' := (25, [(0, .ref 69), (2, .int (((75 * dr) + 74) - ((75 * dr) + 74) / 65537 * 65537)), (3, .int (mn + 1)), (4, .int (nI e)), (5, .int ((nI j) + 1))], [])) (h' := zH (zb v 79 (upd slp e ((slp e) ||| ((1 : Int32) <<< ((nI j) &&& 31))))) w t) rfl ?_
        rw [nI_1]
        simp only [zl_mdrDG, if_neg c2, if_pos c3] at hk
        exact hk
      · have c3 : ¬ (((((75 * dr) + 74) - ((75 * dr) + 74) / 65537 * 65537) - (((75 * dr) + 74) - ((75 * dr) + 74) / 65537 * 65537) / 100 * 100) < (v 71 0)) := of_decide_eq_false c3
        refine zk_T.adv 3 (f' := (25, [(0, .ref 69), (2, .int (((75 * dr) + 74) - ((75 * dr) + 74) / 65537 * 65537)), (3, .int mn), (4, .int (nI e)), (5, .int ((nI j) + 1))], [])) (h' := zH (zb v 79 slp) w t) rfl ?_
        rw [nI_1]
        simp only [zl_mdrDG, if_neg c2, if_neg c3] at hk
        exact hk
  · obtain ⟨dr, mn, slp⟩ := s
    show zk_T zk_mt zk_ex Ls xs zm_111 (25, [(0, .ref 69), (2, .int dr), (3, .int mn), (4, .int (nI e)), (5, .int (nI (0 + D)))], []) (zH (zb v 79 slp) w t) q
    refine zk_T.adv 4 (f' := (32, [(0, .ref 69), (2, .int dr), (3, .int mn), (4, .int (nI e)), (5, .int (nI (0 + D)))], [.int 1, .ref 72, .int (nI (0 + D))])) (h' := zH (zb v 79 slp) w t) rfl ?_
    refine zk_T.ob (f' := (33, [(0, .ref 69), (2, .int dr), (3, .int mn), (4, .int (nI e)), (5, .int (nI (0 + D)))], [.int (v 71 (1 : Int32).toNatClampNeg), .int (nI (0 + D))])) (h' := zH (zb v 79 slp) w t) rfl rfl ?_
    show zk_T zk_mt zk_ex Ls xs zm_111 (33, [(0, .ref 69), (2, .int dr), (3, .int mn), (4, .int (nI e)), (5, .int (nI (0 + D)))], [.int (v 71 1), .int (nI (0 + D))]) (zH (zb v 79 slp) w t) _
    refine zk_T.br (f1 := (107, [(0, .ref 69), (2, .int dr), (3, .int mn), (4, .int (nI e)), (5, .int (nI (0 + D)))], [])) (f2 := (36, [(0, .ref 69), (2, .int dr), (3, .int mn), (4, .int (nI e)), (5, .int (nI (0 + D)))], [])) rfl (fun c1 => ?_) (fun c1 => absurd (by rw [show _ = nI D from hD, Nat.zero_add]; exact nI_le (Nat.le_refl _) (by omega)) (of_decide_eq_false c1))
    exact hk
  · exact trivial
def zl_mdrMG (D : Nat) (r st : Nat → Int32) (j : Nat) (s : Int32 × Int32 × (Nat → Int32)) : Int32 × Int32 × (Nat → Int32) := match s with
  | (dr, mn, slp) => (((zf (zl_mdrDG (r) (st) j) D 0 (dr, mn, slp)).1), ((zf (zl_mdrDG (r) (st) j) D 0 (dr, mn, slp)).2.1), (zf (zl_mdrDG (r) (st) j) D 0 (dr, mn, slp)).2.2)
theorem zl_mdrM (D : Nat) (hD : v 71 1 = nI D) (h8 : D ≤ 8) (Mn : Nat) (hM : v 71 2 = nI Mn) (h5 : Mn ≤ 5) : ∀ (s : Int32 × Int32 × (Nat → Int32)) (q : Option Value × zk_H), zk_T zk_mt zk_ex Ls xs zm_111 ((fun (s : Int32 × Int32 × (Nat → Int32)) => ((113, [(0, .ref 69), (2, .int s.1), (3, .int s.2.1), (4, .int (nI (0 + Mn)))], []) : zk_F)) (zf (zl_mdrMG D (v 71) (v 75)) Mn 0 s)) ((fun (s : Int32 × Int32 × (Nat → Int32)) => zH (zb v 79 s.2.2) w t) (zf (zl_mdrMG D (v 71) (v 75)) Mn 0 s)) q → zk_T zk_mt zk_ex Ls xs zm_111 (11, [(0, .ref 69), (2, .int s.1), (3, .int s.2.1), (4, .int (nI 0))], []) (zH (zb v 79 s.2.2) w t) q := by
  intro s q hk
  refine zk_forK (M := zm_111) (fun j (s : Int32 × Int32 × (Nat → Int32)) => (11, [(0, .ref 69), (2, .int s.1), (3, .int s.2.1), (4, .int (nI j))], [])) (fun _ (s : Int32 × Int32 × (Nat → Int32)) => zH (zb v 79 s.2.2) w t) (zl_mdrMG D (v 71) (v 75)) (fun _ _ => True) (fun (s : Int32 × Int32 × (Nat → Int32)) => (113, [(0, .ref 69), (2, .int s.1), (3, .int s.2.1), (4, .int (nI (0 + Mn)))], [])) (fun (s : Int32 × Int32 × (Nat → Int32)) => zH (zb v 79 s.2.2) w t) (Mn) 0 s (fun _ _ _ _ _ => trivial) (fun j s hj1 hj2 hp q hk => ?_) (fun s hp q hk => ?_) ?_ q hk
  · obtain ⟨dr, mn, slp⟩ := s
    show zk_T zk_mt zk_ex Ls xs zm_111 (11, [(0, .ref 69), (2, .int dr), (3, .int mn), (4, .int (nI j))], []) (zH (zb v 79 slp) w t) q
    refine zk_T.adv 4 (f' := (18, [(0, .ref 69), (2, .int dr), (3, .int mn), (4, .int (nI j))], [.int 2, .ref 72, .int (nI j)])) (h' := zH (zb v 79 slp) w t) rfl ?_
    refine zk_T.ob (f' := (19, [(0, .ref 69), (2, .int dr), (3, .int mn), (4, .int (nI j))], [.int (v 71 (2 : Int32).toNatClampNeg), .int (nI j)])) (h' := zH (zb v 79 slp) w t) rfl rfl ?_
    show zk_T zk_mt zk_ex Ls xs zm_111 (19, [(0, .ref 69), (2, .int dr), (3, .int mn), (4, .int (nI j))], [.int (v 71 2), .int (nI j)]) (zH (zb v 79 slp) w t) _
    refine zk_T.br (f1 := (113, [(0, .ref 69), (2, .int dr), (3, .int mn), (4, .int (nI j))], [])) (f2 := (22, [(0, .ref 69), (2, .int dr), (3, .int mn), (4, .int (nI j))], [])) rfl (fun c1 => absurd (of_decide_eq_true c1) (by rw [show _ = nI Mn from hM]; exact nI_ge (show j < Mn by omega) (by omega))) (fun c1 => ?_)
    refine zk_T.adv 2 (f' := (25, [(0, .ref 69), (2, .int dr), (3, .int mn), (4, .int (nI j)), (5, .int 0)], [])) (h' := zH (zb v 79 slp) w t) rfl ?_
    refine zl_mdrD (v := v) (w := w) (t := t) D hD h8 j (by omega) (dr, mn, slp) _ ?_
    show zk_T zk_mt zk_ex Ls xs zm_111 (107, [(0, .ref 69), (2, .int ((zf (zl_mdrDG (v 71) (v 75) j) D 0 (dr, mn, slp)).1)), (3, .int ((zf (zl_mdrDG (v 71) (v 75) j) D 0 (dr, mn, slp)).2.1)), (4, .int (nI j)), (5, .int (nI (0 + D)))], []) (zH (zb v 79 ((zf (zl_mdrDG (v 71) (v 75) j) D 0 (dr, mn, slp)).2.2)) w t) _
    refine zk_T.adv 2 (f' := (11, [(0, .ref 69), (2, .int ((zf (zl_mdrDG (v 71) (v 75) j) D 0 (dr, mn, slp)).1)), (3, .int ((zf (zl_mdrDG (v 71) (v 75) j) D 0 (dr, mn, slp)).2.1)), (4, .int ((nI j) + 1))], [])) (h' := zH (zb v 79 ((zf (zl_mdrDG (v 71) (v 75) j) D 0 (dr, mn, slp)).2.2)) w t) rfl ?_
    rw [nI_1]
    simp only [zl_mdrMG] at hk
    exact hk
  · obtain ⟨dr, mn, slp⟩ := s
    show zk_T zk_mt zk_ex Ls xs zm_111 (11, [(0, .ref 69), (2, .int dr), (3, .int mn), (4, .int (nI (0 + Mn)))], []) (zH (zb v 79 slp) w t) q
    refine zk_T.adv 4 (f' := (18, [(0, .ref 69), (2, .int dr), (3, .int mn), (4, .int (nI (0 + Mn)))], [.int 2, .ref 72, .int (nI (0 + Mn))])) (h' := zH (zb v 79 slp) w t) rfl ?_
    refine zk_T.ob (f' := (19, [(0, .ref 69), (2, .int dr), (3, .int mn), (4, .int (nI (0 + Mn)))], [.int (v 71 (2 : Int32).toNatClampNeg), .int (nI (0 + Mn))])) (h' := zH (zb v 79 slp) w t) rfl rfl ?_
    show zk_T zk_mt zk_ex Ls xs zm_111 (19, [(0, .ref 69), (2, .int dr), (3, .int mn), (4, .int (nI (0 + Mn)))], [.int (v 71 2), .int (nI (0 + Mn))]) (zH (zb v 79 slp) w t) _
    refine zk_T.br (f1 := (113, [(0, .ref 69), (2, .int dr), (3, .int mn), (4, .int (nI (0 + Mn)))], [])) (f2 := (22, [(0, .ref 69), (2, .int dr), (3, .int mn), (4, .int (nI (0 + Mn)))], [])) rfl (fun c1 => ?_) (fun c1 => absurd (by rw [show _ = nI Mn from hM, Nat.zero_add]; exact nI_le (Nat.le_refl _) (by omega)) (of_decide_eq_false c1))
    exact hk
  · exact trivial
def zr_mdraw (D Mn : Nat) (r st slp : Nat → Int32) (se : Int32) : Int32 × (Nat → Int32) := (((zf (zl_mdrMG D (r) (st)) Mn 0 (se, 0, (zr_mnoSlips (slp)))).2.1), (zf (zl_mdrMG D (r) (st)) Mn 0 (se, 0, (zr_mnoSlips (slp)))).2.2)
/-- BasketKeepModel.drawSlips -/
theorem zs_mdrawSlips (D : Nat) (hD : v 71 1 = nI D) (h8 : D ≤ 8) (Mn : Nat) (hM : v 71 2 = nI Mn) (h5 : Mn ≤ 5) (se : Int32) : zk_Cr zk_mt zk_ex Ls xs 111 [.ref 69, .int se] (zH v w t) (some (.int (zr_mdraw D Mn (v 71) (v 75) (v 79) se).1), zH (zb v 79 ((zr_mdraw D Mn (v 71) (v 75) (v 79) se).2)) w t) := by
  refine zk_Cr.of (K := zm_111) rfl rfl rfl ?_
  show zk_T zk_mt zk_ex Ls xs zm_111 (0, [(0, .ref 69), (1, .int se)], []) (zH v w t) _
  refine zk_T.adv 5 (f' := (5, [(0, .ref 69), (1, .int se), (2, .int se), (3, .int 0)], [.ref 69])) (h' := zH v w t) rfl ?_
  refine zk_T.cl (v := none) (h' := zH (zb v 79 (zr_mnoSlips (v 79))) w t) rfl (zs_mnoSlips (v := v)) ?_
  show zk_T zk_mt zk_ex Ls xs zm_111 (8, [(0, .ref 69), (1, .int se), (2, .int se), (3, .int 0)], []) (zH (zb v 79 (zr_mnoSlips (v 79))) w t) _
  refine zk_T.adv 2 (f' := (11, [(0, .ref 69), (2, .int se), (3, .int 0), (4, .int 0)], [])) (h' := zH (zb v 79 (zr_mnoSlips (v 79))) w t) rfl ?_
  refine zl_mdrM (v := (zb v 79 (zr_mnoSlips (v 79)))) (w := w) (t := t) D hD h8 Mn hM h5 (se, 0, (zr_mnoSlips (v 79))) _ ?_
  show zk_T zk_mt zk_ex Ls xs zm_111 (113, [(0, .ref 69), (2, .int ((zf (zl_mdrMG D (v 71) (v 75)) Mn 0 (se, 0, (zr_mnoSlips (v 79)))).1)), (3, .int ((zf (zl_mdrMG D (v 71) (v 75)) Mn 0 (se, 0, (zr_mnoSlips (v 79)))).2.1)), (4, .int (nI (0 + Mn)))], []) (zH (zb v 79 ((zf (zl_mdrMG D (v 71) (v 75)) Mn 0 (se, 0, (zr_mnoSlips (v 79)))).2.2)) w t) _
  refine zk_T.adv 1 (f' := (114, [(0, .ref 69), (2, .int ((zf (zl_mdrMG D (v 71) (v 75)) Mn 0 (se, 0, (zr_mnoSlips (v 79)))).1)), (3, .int ((zf (zl_mdrMG D (v 71) (v 75)) Mn 0 (se, 0, (zr_mnoSlips (v 79)))).2.1)), (4, .int (nI (0 + Mn)))], [.int ((zf (zl_mdrMG D (v 71) (v 75)) Mn 0 (se, 0, (zr_mnoSlips (v 79)))).2.1)])) (h' := zH (zb v 79 ((zf (zl_mdrMG D (v 71) (v 75)) Mn 0 (se, 0, (zr_mnoSlips (v 79)))).2.2)) w t) rfl ?_
  exact zk_T.rt rfl rfl (by simp only [zr_mdraw] <;> rfl)
def zl_mnoteG  (j : Nat) (s : (Nat → Int32)) : (Nat → Int32) := match s with
  | un => upd un j (un (j + 16))
theorem zl_mnote  : ∀ (s : (Nat → Int32)) (q : Option Value × zk_H), zk_T zk_mt zk_ex Ls xs zm_123 ((fun (s : (Nat → Int32)) => ((39, [(0, .ref 69), (1, .int (nI (0 + 240)))], []) : zk_F)) (zf (zl_mnoteG ) 240 0 s)) ((fun (s : (Nat → Int32)) => zH (zb v 77 s) w t) (zf (zl_mnoteG ) 240 0 s)) q → zk_T zk_mt zk_ex Ls xs zm_123 (11, [(0, .ref 69), (1, .int (nI 0))], []) (zH (zb v 77 s) w t) q := by
  intro s q hk
  refine zk_forK (M := zm_123) (fun j (s : (Nat → Int32)) => (11, [(0, .ref 69), (1, .int (nI j))], [])) (fun _ (s : (Nat → Int32)) => zH (zb v 77 s) w t) (zl_mnoteG ) (fun _ _ => True) (fun (s : (Nat → Int32)) => (39, [(0, .ref 69), (1, .int (nI (0 + 240)))], [])) (fun (s : (Nat → Int32)) => zH (zb v 77 s) w t) (240) 0 s (fun _ _ _ _ _ => trivial) (fun j s hj1 hj2 hp q hk => ?_) (fun s hp q hk => ?_) ?_ q hk
  · have hz := True.intro
    obtain ⟨un, rfl⟩ : ∃ z, z = s := ⟨_, rfl⟩
    show zk_T zk_mt zk_ex Ls xs zm_123 (11, [(0, .ref 69), (1, .int (nI j))], []) (zH (zb v 77 un) w t) q
    refine zk_T.adv 2 (f' := (15, [(0, .ref 69), (1, .int (nI j))], [.int 240, .int (nI j)])) (h' := zH (zb v 77 un) w t) rfl ?_
    refine zk_T.br (f1 := (39, [(0, .ref 69), (1, .int (nI j))], [])) (f2 := (18, [(0, .ref 69), (1, .int (nI j))], [])) rfl (fun c1 => absurd (of_decide_eq_true c1) (show ¬ (240 : Int32) ≤ nI j from nI_ge (by omega) (by decide))) (fun c1 => ?_)
    refine zk_T.adv 8 (f' := (31, [(0, .ref 69), (1, .int (nI j))], [.int ((nI j) + 16), .ref 78, .int (nI j), .ref 78])) (h' := zH (zb v 77 un) w t) rfl ?_
    rw [show (nI j) + 16 = nI (j + 16) from nI_add j 16]
    refine zk_T.ob (f' := (32, [(0, .ref 69), (1, .int (nI j))], [.int (un (nI (j + 16)).toNatClampNeg), .int (nI j), .ref 78])) (h' := zH (zb v 77 un) w t) rfl (by first | exact zk_inN (by omega) (by decide) | decide) ?_
    rw [nI_clamp (show (j + 16) < 2 ^ 31 by omega)]
    refine zk_T.ob (f' := (33, [(0, .ref 69), (1, .int (nI j))], [])) (h' := zH (zb v 77 (upd un (nI j).toNatClampNeg (un (j + 16)))) w t) rfl (by first | exact zk_inN (by omega) (by decide) | decide) ?_
    rw [nI_clamp (show j < 2 ^ 31 by omega)]
    refine zk_T.adv 2 (f' := (11, [(0, .ref 69), (1, .int ((nI j) + 1))], [])) (h' := zH (zb v 77 (upd un j (un (j + 16)))) w t) rfl ?_
    rw [nI_1]
    simp only [zl_mnoteG] at hk
    exact hk
  · have hz := True.intro
    obtain ⟨un, rfl⟩ : ∃ z, z = s := ⟨_, rfl⟩
    show zk_T zk_mt zk_ex Ls xs zm_123 (11, [(0, .ref 69), (1, .int (nI (0 + 240)))], []) (zH (zb v 77 un) w t) q
    refine zk_T.adv 2 (f' := (15, [(0, .ref 69), (1, .int (nI (0 + 240)))], [.int 240, .int (nI (0 + 240))])) (h' := zH (zb v 77 un) w t) rfl ?_
    refine zk_T.br (f1 := (39, [(0, .ref 69), (1, .int (nI (0 + 240)))], [])) (f2 := (18, [(0, .ref 69), (1, .int (nI (0 + 240)))], [])) rfl (fun c1 => ?_) (fun c1 => absurd (show (240 : Int32) ≤ nI (0 + 240) from by decide) (of_decide_eq_false c1))
    exact hk
  · exact trivial
/-- BasketKeepModel.note -/
theorem zs_mnote_f (k : Nat) (hk : v 68 23 = nI k) (hk16 : k < 16) : zk_Cr zk_mt zk_ex Ls xs 123 [.ref 69] (zH v w t) (none, zH (zb (zb v 68 (upd (v 68) 23 (nI (k + 1)))) 77 (zr_cpSu (v 75) (v 77) (16 * k))) w t) := by
  refine zk_Cr.of (K := zm_123) rfl rfl rfl ?_
  show zk_T zk_mt zk_ex Ls xs zm_123 (0, [(0, .ref 69)], []) (zH v w t) _
  refine zk_T.adv 2 (f' := (4, [(0, .ref 69)], [.int (v 68 23)])) (h' := zH v w t) rfl ?_
  rw [show (v 68 23) = nI k from hk]
  refine zk_T.adv 1 (f' := (6, [(0, .ref 69)], [.int 16, .int (nI k)])) (h' := zH v w t) rfl ?_
  refine zk_T.br (f1 := (9, [(0, .ref 69)], [])) (f2 := (49, [(0, .ref 69)], [])) rfl (fun c1 => absurd (of_decide_eq_true c1) (fun z => absurd ((nI_eq (show k < 2 ^ 31 by omega) (show 16 < 2 ^ 31 by decide)).mp z) (by omega))) (fun c1 => ?_)
  refine zk_T.adv 8 (f' := (64, [(0, .ref 69)], [.int (v 68 23), .int 16, .ref 78, .int 0, .ref 76])) (h' := zH v w t) rfl ?_
  rw [show (v 68 23) = nI k from hk]
  refine zk_T.adv 1 (f' := (65, [(0, .ref 69)], [.int (16 * (nI k)), .ref 78, .int 0, .ref 76])) (h' := zH v w t) rfl ?_
  rw [show 16 * (nI k) = nI (16 * k) from pk_mul 16 k]
  refine zk_T.adv 1 (f' := (67, [(0, .ref 69)], [.int 16, .int (nI (16 * k)), .ref 78, .int 0, .ref 76])) (h' := zH v w t) rfl ?_
  refine zk_T.cl (v := none) (h' := zH (zb v 77 (zr_cpSu (v 75) (v 77) (16 * k))) w t) rfl (zs_cpSu (v := v) (w := w) (16 * k) (by omega)) ?_
  show zk_T zk_mt zk_ex Ls xs zm_123 (70, [(0, .ref 69)], []) (zH (zb v 77 (zr_cpSu (v 75) (v 77) (16 * k))) w t) _
  refine zk_T.adv 3 (f' := (75, [(0, .ref 69)], [.int (v 68 23), .ref 69])) (h' := zH (zb v 77 (zr_cpSu (v 75) (v 77) (16 * k))) w t) rfl ?_
  rw [show (v 68 23) = nI k from hk]
  refine zk_T.adv 2 (f' := (77, [(0, .ref 69)], [.int ((nI k) + 1), .ref 69])) (h' := zH (zb v 77 (zr_cpSu (v 75) (v 77) (16 * k))) w t) rfl ?_
  rw [show (nI k) + 1 = nI (k + 1) from nI_add k 1]
  refine zk_T.adv 1 (f' := (80, [(0, .ref 69)], [])) (h' := zH (zb (zb v 68 (upd (v 68) 23 (nI (k + 1)))) 77 (zr_cpSu (v 75) (v 77) (16 * k))) w t) rfl ?_
  exact zk_T.rt rfl rfl (by rfl)
set_option maxRecDepth 20000 in
/-- BasketKeepModel.note -/
theorem zs_mnote_16 (hk : v 68 23 = 16) : zk_Cr zk_mt zk_ex Ls xs 123 [.ref 69] (zH v w t) (none, zH (zb (zb v 68 (upd (v 68) 23 16)) 77 (zr_cpSu (v 75) (zf (zl_mnoteG ) 240 0 (v 77)) 240)) w t) := by
  refine zk_Cr.of (K := zm_123) rfl rfl rfl ?_
  show zk_T zk_mt zk_ex Ls xs zm_123 (0, [(0, .ref 69)], []) (zH v w t) _
  refine zk_T.adv 2 (f' := (4, [(0, .ref 69)], [.int (v 68 23)])) (h' := zH v w t) rfl ?_
  rw [show (v 68 23) = 16 from hk]
  refine zk_T.adv 1 (f' := (6, [(0, .ref 69)], [.int 16, .int 16])) (h' := zH v w t) rfl ?_
  refine zk_T.br (f1 := (9, [(0, .ref 69)], [])) (f2 := (49, [(0, .ref 69)], [])) rfl (fun c1 => ?_) (fun c1 => absurd (by decide) (of_decide_eq_false c1))
  refine zk_T.adv 2 (f' := (11, [(0, .ref 69), (1, .int 0)], [])) (h' := zH v w t) rfl ?_
  refine zl_mnote (v := v) (w := w) (t := t) (v 77) _ ?_
  show zk_T zk_mt zk_ex Ls xs zm_123 (39, [(0, .ref 69), (1, .int (nI (0 + 240)))], []) (zH (zb v 77 (zf (zl_mnoteG ) 240 0 (v 77))) w t) _
  refine zk_T.adv 3 (f' := (44, [(0, .ref 69), (1, .int (nI (0 + 240)))], [.int (v 68 23), .ref 69])) (h' := zH (zb v 77 (zf (zl_mnoteG ) 240 0 (v 77))) w t) rfl ?_
  rw [show (v 68 23) = 16 from hk]
  refine zk_T.adv 13 (f' := (67, [(0, .ref 69), (1, .int (nI (0 + 240)))], [.int 16, .int 240, .ref 78, .int 0, .ref 76])) (h' := zH (zb (zb v 68 (upd (v 68) 23 15)) 77 (zf (zl_mnoteG ) 240 0 (v 77))) w t) rfl ?_
  refine zk_T.cl (v := none) (h' := zH (zb (zb v 68 (upd (v 68) 23 15)) 77 (zr_cpSu (v 75) (zf (zl_mnoteG ) 240 0 (v 77)) 240)) w t) rfl (zs_cpSu (v := (zb (zb v 68 (upd (v 68) 23 15)) 77 (zf (zl_mnoteG ) 240 0 (v 77)))) (w := w) 240 (by omega)) ?_
  show zk_T zk_mt zk_ex Ls xs zm_123 (70, [(0, .ref 69), (1, .int (nI (0 + 240)))], []) (zH (zb (zb v 68 (upd (v 68) 23 15)) 77 (zr_cpSu (v 75) (zf (zl_mnoteG ) 240 0 (v 77)) 240)) w t) _
  refine zk_T.adv 6 (f' := (80, [(0, .ref 69), (1, .int (nI (0 + 240)))], [])) (h' := zH (zb (zb v 68 (upd (v 68) 23 16)) 77 (zr_cpSu (v 75) (zf (zl_mnoteG ) 240 0 (v 77)) 240)) w t) rfl ?_
  exact zk_T.rt rfl rfl (by rfl)
end Z51
