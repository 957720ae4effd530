/-! contracts: the reference: small ones, a year, years -/
def zk_lie (Gn : Nat) (row : Nat → Int32) : Prop := ∀ a, a < Gn → row (10 + a) = 0 ∨ ∃ e, e < 5 ∧ row (10 + a) = nI (e + 1)
theorem zk_lieU {Gn : Nat} {row : Nat → Int32} (h : zk_lie Gn row) (h4 : Gn ≤ 4) {i : Nat} (hi : i < 10 ∨ 14 ≤ i) (x : Int32) : zk_lie Gn (upd row i x) := by
  intro a ha
  rw [pk_un (show 10 + a ≠ i by omega)]
  exact h a ha
section Z50
variable {Ls : Nat} {xs : Nat → Int32} {v : Nat → Nat → Int32} {w : Nat → Nat → Int64} {t : zk_H}
def zr_mwithin (x lo hi : Int32) : Int32 := if x < lo then 0 else (if hi < x then 0 else 1)
/-- BasketKeepModel.within -/
theorem zs_mwithin (x lo hi : Int32) : zk_Cr zk_mt zk_ex Ls xs 67 [.int x, .int lo, .int hi] (zH v w t) (some (.int (zr_mwithin x lo hi)), zH v w t) := by
  refine zk_Cr.of (K := zm_67) rfl rfl rfl ?_
  show zk_T zk_mt zk_ex Ls xs zm_67 (0, [(0, .int x), (1, .int lo), (2, .int hi)], []) (zH v w t) _
  refine zk_T.adv 2 (f' := (2, [(0, .int x), (1, .int lo), (2, .int hi)], [.int lo, .int x])) (h' := zH v w t) rfl ?_
  refine zk_T.br (f1 := (14, [(0, .int x), (1, .int lo), (2, .int hi)], [])) (f2 := (5, [(0, .int x), (1, .int lo), (2, .int hi)], [])) rfl (fun c1 => ?_) (fun c1 => ?_)
  · have c1 : x < lo := of_decide_eq_true c1
    refine zk_T.adv 1 (f' := (15, [(0, .int x), (1, .int lo), (2, .int hi)], [.int 0])) (h' := zH v w t) rfl ?_
    exact zk_T.rt rfl rfl (by simp only [zr_mwithin, if_pos c1])
  · have c1 : ¬ (x < lo) := of_decide_eq_false c1
    refine zk_T.adv 2 (f' := (7, [(0, .int x), (1, .int lo), (2, .int hi)], [.int hi, .int x])) (h' := zH v w t) rfl ?_
    refine zk_T.br (f1 := (14, [(0, .int x), (1, .int lo), (2, .int hi)], [])) (f2 := (10, [(0, .int x), (1, .int lo), (2, .int hi)], [])) rfl (fun c2 => ?_) (fun c2 => ?_)
    · have c2 : hi < x := of_decide_eq_true c2
      refine zk_T.adv 1 (f' := (15, [(0, .int x), (1, .int lo), (2, .int hi)], [.int 0])) (h' := zH v w t) rfl ?_
      exact zk_T.rt rfl rfl (by simp only [zr_mwithin, if_neg c1, if_pos c2])
    · have c2 : ¬ (hi < x) := of_decide_eq_false c2
      refine zk_T.adv 2 (f' := (15, [(0, .int x), (1, .int lo), (2, .int hi)], [.int 1])) (h' := zH v w t) rfl ?_
      exact zk_T.rt rfl rfl (by simp only [zr_mwithin, if_neg c1, if_neg c2])
def zr_mhasBit (st k : Int32) : Int32 := if ((st >>> (k &&& 31)) &&& 1) = 1 then 1 else 0
/-- BasketKeepModel.hasBit -/
theorem zs_mhasBit (st k : Int32) : zk_Cr zk_mt zk_ex Ls xs 49 [.int st, .int k] (zH v w t) (some (.int (zr_mhasBit st k)), zH v w t) := by
  refine zk_Cr.of (K := zm_49) rfl rfl rfl ?_
  show zk_T zk_mt zk_ex Ls xs zm_49 (0, [(0, .int st), (1, .int k)], []) (zH v w t) _
  refine zk_T.adv 6 (f' := (6, [(0, .int st), (1, .int k)], [.int 1, .int ((st >>> (k &&& 31)) &&& 1)])) (h' := zH v w t) rfl ?_
  refine zk_T.br (f1 := (9, [(0, .int st), (1, .int k)], [])) (f2 := (13, [(0, .int st), (1, .int k)], [])) rfl (fun c1 => ?_) (fun c1 => ?_)
  · have c1 : ((st >>> (k &&& 31)) &&& 1) = 1 := of_decide_eq_true c1
    refine zk_T.adv 2 (f' := (14, [(0, .int st), (1, .int k)], [.int 1])) (h' := zH v w t) rfl ?_
    exact zk_T.rt rfl rfl (by simp only [zr_mhasBit, if_pos c1])
  · have c1 : ¬ (((st >>> (k &&& 31)) &&& 1) = 1) := of_decide_eq_false c1
    refine zk_T.adv 1 (f' := (14, [(0, .int st), (1, .int k)], [.int 0])) (h' := zH v w t) rfl ?_
    exact zk_T.rt rfl rfl (by simp only [zr_mhasBit, if_neg c1])
def zr_mwhy (a b : Int32) : Int32 := if a = 0 then 1 else (if b = 0 then 2 else 0)
/-- BasketKeepModel.why -/
theorem zs_mwhy (a b : Int32) : zk_Cr zk_mt zk_ex Ls xs 66 [.ref 69, .int a, .int b] (zH v w t) (some (.int (zr_mwhy a b)), zH v w t) := by
  refine zk_Cr.of (K := zm_66) rfl rfl rfl ?_
  show zk_T zk_mt zk_ex Ls xs zm_66 (0, [(0, .ref 69), (1, .int a), (2, .int b)], []) (zH v w t) _
  refine zk_T.adv 1 (f' := (1, [(0, .ref 69), (1, .int a), (2, .int b)], [.int a])) (h' := zH v w t) rfl ?_
  refine zk_T.br (f1 := (4, [(0, .ref 69), (1, .int a), (2, .int b)], [])) (f2 := (8, [(0, .ref 69), (1, .int a), (2, .int b)], [])) rfl (fun c1 => ?_) (fun c1 => ?_)
  · have c1 : a = 0 := of_decide_eq_true c1
    refine zk_T.adv 2 (f' := (17, [(0, .ref 69), (1, .int a), (2, .int b)], [.int 1])) (h' := zH v w t) rfl ?_
    exact zk_T.rt rfl rfl (by simp only [zr_mwhy, if_pos c1])
  · have c1 : ¬ (a = 0) := of_decide_eq_false c1
    refine zk_T.adv 1 (f' := (9, [(0, .ref 69), (1, .int a), (2, .int b)], [.int b])) (h' := zH v w t) rfl ?_
    refine zk_T.br (f1 := (16, [(0, .ref 69), (1, .int a), (2, .int b)], [])) (f2 := (12, [(0, .ref 69), (1, .int a), (2, .int b)], [])) rfl (fun c2 => ?_) (fun c2 => ?_)
    · have c2 : b = 0 := of_decide_eq_true c2
      refine zk_T.adv 1 (f' := (17, [(0, .ref 69), (1, .int a), (2, .int b)], [.int 2])) (h' := zH v w t) rfl ?_
      exact zk_T.rt rfl rfl (by simp only [zr_mwhy, if_neg c1, if_pos c2])
    · have c2 : ¬ (b = 0) := of_decide_eq_false c2
      refine zk_T.adv 2 (f' := (17, [(0, .ref 69), (1, .int a), (2, .int b)], [.int 0])) (h' := zH v w t) rfl ?_
      exact zk_T.rt rfl rfl (by simp only [zr_mwhy, if_neg c1, if_neg c2])
def zr_maheadWhy (a n : Int32) : Int32 := (zr_mwhy a (zr_mwithin n 0 60))
/-- BasketKeepModel.aheadWhy -/
theorem zs_maheadWhy (a n : Int32) : zk_Cr zk_mt zk_ex Ls xs 108 [.ref 69, .int a, .int n] (zH v w t) (some (.int (zr_maheadWhy a n)), zH v w t) := by
  refine zk_Cr.of (K := zm_108) rfl rfl rfl ?_
  show zk_T zk_mt zk_ex Ls xs zm_108 (0, [(0, .ref 69), (1, .int a), (2, .int n)], []) (zH v w t) _
  refine zk_T.adv 5 (f' := (6, [(0, .ref 69), (1, .int a), (2, .int n)], [.int 60, .int 0, .int n, .int a, .ref 69])) (h' := zH v w t) rfl ?_
  refine zk_T.cl (v := some (.int (zr_mwithin n 0 60))) (h' := zH v w t) rfl (zs_mwithin n 0 60) ?_
  show zk_T zk_mt zk_ex Ls xs zm_108 (9, [(0, .ref 69), (1, .int a), (2, .int n)], [.int (zr_mwithin n 0 60), .int a, .ref 69]) (zH v w t) _
  refine zk_T.cl (v := some (.int (zr_mwhy a (zr_mwithin n 0 60)))) (h' := zH v w t) rfl (zs_mwhy a (zr_mwithin n 0 60)) ?_
  show zk_T zk_mt zk_ex Ls xs zm_108 (12, [(0, .ref 69), (1, .int a), (2, .int n)], [.int (zr_mwhy a (zr_mwithin n 0 60))]) (zH v w t) _
  exact zk_T.rt rfl rfl (by rfl)
def zr_mholdsOf (ru mi ot : Int32) : Int32 := if mi = 0 then if ot = 0 then 2 else 1 else (if ot = 0 then 3 else (-ru))
/-- BasketKeepModel.holdsOf -/
theorem zs_mholdsOf (ru mi ot : Int32) : zk_Cr zk_mt zk_ex Ls xs 50 [.int ru, .int mi, .int ot] (zH v w t) (some (.int (zr_mholdsOf ru mi ot)), zH v w t) := by
  refine zk_Cr.of (K := zm_50) rfl rfl rfl ?_
  show zk_T zk_mt zk_ex Ls xs zm_50 (0, [(0, .int ru), (1, .int mi), (2, .int ot)], []) (zH v w t) _
  refine zk_T.adv 1 (f' := (1, [(0, .int ru), (1, .int mi), (2, .int ot)], [.int mi])) (h' := zH v w t) rfl ?_
  refine zk_T.br (f1 := (17, [(0, .int ru), (1, .int mi), (2, .int ot)], [])) (f2 := (4, [(0, .int ru), (1, .int mi), (2, .int ot)], [])) rfl (fun c1 => ?_) (fun c1 => ?_)
  · have c1 : mi = 0 := of_decide_eq_true c1
    refine zk_T.adv 1 (f' := (18, [(0, .int ru), (1, .int mi), (2, .int ot)], [.int ot])) (h' := zH v w t) rfl ?_
    refine zk_T.br (f1 := (25, [(0, .int ru), (1, .int mi), (2, .int ot)], [])) (f2 := (21, [(0, .int ru), (1, .int mi), (2, .int ot)], [])) rfl (fun c2 => ?_) (fun c2 => ?_)
    · have c2 : ot = 0 := of_decide_eq_true c2
      refine zk_T.adv 1 (f' := (26, [(0, .int ru), (1, .int mi), (2, .int ot)], [.int 2])) (h' := zH v w t) rfl ?_
      exact zk_T.rt rfl rfl (by simp only [zr_mholdsOf, if_pos c1, if_pos c2])
    · have c2 : ¬ (ot = 0) := of_decide_eq_false c2
      refine zk_T.adv 2 (f' := (26, [(0, .int ru), (1, .int mi), (2, .int ot)], [.int 1])) (h' := zH v w t) rfl ?_
      exact zk_T.rt rfl rfl (by simp only [zr_mholdsOf, if_pos c1, if_neg c2])
  · have c1 : ¬ (mi = 0) := of_decide_eq_false c1
    refine zk_T.adv 1 (f' := (5, [(0, .int ru), (1, .int mi), (2, .int ot)], [.int ot])) (h' := zH v w t) rfl ?_
    refine zk_T.br (f1 := (13, [(0, .int ru), (1, .int mi), (2, .int ot)], [])) (f2 := (8, [(0, .int ru), (1, .int mi), (2, .int ot)], [])) rfl (fun c3 => ?_) (fun c3 => ?_)
    · have c3 : ot = 0 := of_decide_eq_true c3
      refine zk_T.adv 2 (f' := (26, [(0, .int ru), (1, .int mi), (2, .int ot)], [.int 3])) (h' := zH v w t) rfl ?_
      exact zk_T.rt rfl rfl (by simp only [zr_mholdsOf, if_neg c1, if_pos c3])
    · have c3 : ¬ (ot = 0) := of_decide_eq_false c3
      refine zk_T.adv 3 (f' := (26, [(0, .int ru), (1, .int mi), (2, .int ot)], [.int (-ru)])) (h' := zH v w t) rfl ?_
      exact zk_T.rt rfl rfl (by simp only [zr_mholdsOf, if_neg c1, if_neg c3])
def zl_monesG (st : Int32) (j : Nat) (s : Int32) : Int32 := match s with
  | a => a + ((st >>> ((nI j) &&& 31)) &&& 1)
theorem zl_mones (st : Int32) : ∀ (s : Int32) (q : Option Value × zk_H), zk_T zk_mt zk_ex Ls xs zm_59 ((fun (s : Int32) => ((24, [(0, .int st), (1, .int s), (2, .int (nI (0 + 8)))], []) : zk_F)) (zf (zl_monesG st) 8 0 s)) ((fun (s : Int32) => zH v w t) (zf (zl_monesG st) 8 0 s)) q → zk_T zk_mt zk_ex Ls xs zm_59 (4, [(0, .int st), (1, .int s), (2, .int (nI 0))], []) (zH v w t) q := by
  intro s q hk
  refine zk_forK (M := zm_59) (fun j (s : Int32) => (4, [(0, .int st), (1, .int s), (2, .int (nI j))], [])) (fun _ (s : Int32) => zH v w t) (zl_monesG st) (fun _ _ => True) (fun (s : Int32) => (24, [(0, .int st), (1, .int s), (2, .int (nI (0 + 8)))], [])) (fun (s : Int32) => zH v w t) (8) 0 s (fun _ _ _ _ _ => trivial) (fun j s hj1 hj2 hp q hk => ?_) (fun s hp q hk => ?_) ?_ q hk
  · have hz := True.intro
    obtain ⟨a, rfl⟩ : ∃ z, z = s := ⟨_, rfl⟩
    show zk_T zk_mt zk_ex Ls xs zm_59 (4, [(0, .int st), (1, .int a), (2, .int (nI j))], []) (zH v w t) q
    refine zk_T.adv 2 (f' := (7, [(0, .int st), (1, .int a), (2, .int (nI j))], [.int 8, .int (nI j)])) (h' := zH v w t) rfl ?_
    refine zk_T.br (f1 := (24, [(0, .int st), (1, .int a), (2, .int (nI j))], [])) (f2 := (10, [(0, .int st), (1, .int a), (2, .int (nI j))], [])) rfl (fun c1 => absurd (of_decide_eq_true c1) (show ¬ 8 ≤ nI j from nI_ge (by omega) (by decide))) (fun c1 => ?_)
    refine zk_T.adv 10 (f' := (4, [(0, .int st), (1, .int (a + ((st >>> ((nI j) &&& 31)) &&& 1))), (2, .int ((nI j) + 1))], [])) (h' := zH v w t) rfl ?_
    rw [nI_1]
    simp only [zl_monesG] at hk
    exact hk
  · have hz := True.intro
    obtain ⟨a, rfl⟩ : ∃ z, z = s := ⟨_, rfl⟩
    show zk_T zk_mt zk_ex Ls xs zm_59 (4, [(0, .int st), (1, .int a), (2, .int (nI (0 + 8)))], []) (zH v w t) q
    refine zk_T.adv 2 (f' := (7, [(0, .int st), (1, .int a), (2, .int (nI (0 + 8)))], [.int 8, .int (nI (0 + 8))])) (h' := zH v w t) rfl ?_
    refine zk_T.br (f1 := (24, [(0, .int st), (1, .int a), (2, .int (nI (0 + 8)))], [])) (f2 := (10, [(0, .int st), (1, .int a), (2, .int (nI (0 + 8)))], [])) rfl (fun c1 => ?_) (fun c1 => absurd (by decide) (of_decide_eq_false c1))
    exact hk
  · exact trivial
def zr_mones (st : Int32) : Int32 := (zf (zl_monesG st) 8 0 0)
/-- BasketKeepModel.ones -/
theorem zs_mones (st : Int32) : zk_Cr zk_mt zk_ex Ls xs 59 [.int st] (zH v w t) (some (.int (zr_mones st)), zH v w t) := by
  refine zk_Cr.of (K := zm_59) rfl rfl rfl ?_
  show zk_T zk_mt zk_ex Ls xs zm_59 (0, [(0, .int st)], []) (zH v w t) _
  refine zk_T.adv 4 (f' := (4, [(0, .int st), (1, .int 0), (2, .int 0)], [])) (h' := zH v w t) rfl ?_
  refine zl_mones (v := v) (w := w) (t := t) st 0 _ ?_
  show zk_T zk_mt zk_ex Ls xs zm_59 (24, [(0, .int st), (1, .int (zf (zl_monesG st) 8 0 0)), (2, .int (nI (0 + 8)))], []) (zH v w t) _
  refine zk_T.adv 1 (f' := (25, [(0, .int st), (1, .int (zf (zl_monesG st) 8 0 0)), (2, .int (nI (0 + 8)))], [.int (zf (zl_monesG st) 8 0 0)])) (h' := zH v w t) rfl ?_
  exact zk_T.rt rfl rfl (by rfl)
def zl_mhighestG (st : Int32) (j : Nat) (s : Int32) : Int32 := match s with
  | a => if (zr_mhasBit st (nI j)) = 0 then a else nI j
theorem zl_mhighest (st : Int32) : ∀ (s : Int32) (q : Option Value × zk_H), zk_T zk_mt zk_ex Ls xs zm_113 ((fun (s : Int32) => ((30, [(0, .int st), (1, .int s), (2, .int (nI (0 + 8)))], []) : zk_F)) (zf (zl_mhighestG st) 8 0 s)) ((fun (s : Int32) => zH v w t) (zf (zl_mhighestG st) 8 0 s)) q → zk_T zk_mt zk_ex Ls xs zm_113 (4, [(0, .int st), (1, .int s), (2, .int (nI 0))], []) (zH v w t) q := by
  intro s q hk
  refine zk_forK (M := zm_113) (fun j (s : Int32) => (4, [(0, .int st), (1, .int s), (2, .int (nI j))], [])) (fun _ (s : Int32) => zH v w t) (zl_mhighestG st) (fun _ _ => True) (fun (s : Int32) => (30, [(0, .int st), (1, .int s), (2, .int (nI (0 + 8)))], [])) (fun (s : Int32) => zH v w t) (8) 0 s (fun _ _ _ _ _ => trivial) (fun j s hj1 hj2 hp q hk => ?_) (fun s hp q hk => ?_) ?_ q hk
  · have hz := True.intro
    obtain ⟨a, rfl⟩ : ∃ z, z = s := ⟨_, rfl⟩
    show zk_T zk_mt zk_ex Ls xs zm_113 (4, [(0, .int st), (1, .int a), (2, .int (nI j))], []) (zH v w t) q
    refine zk_T.adv 2 (f' := (7, [(0, .int st), (1, .int a), (2, .int (nI j))], [.int 8, .int (nI j)])) (h' := zH v w t) rfl ?_
    refine zk_T.br (f1 := (30, [(0, .int st), (1, .int a), (2, .int (nI j))], [])) (f2 := (10, [(0, .int st), (1, .int a), (2, .int (nI j))], [])) rfl (fun c1 => absurd (of_decide_eq_true c1) (show ¬ 8 ≤ nI j from nI_ge (by omega) (by decide))) (fun c1 => ?_)
    refine zk_T.adv 2 (f' := (12, [(0, .int st), (1, .int a), (2, .int (nI j))], [.int (nI j), .int st])) (h' := zH v w t) rfl ?_
    refine zk_T.cl (v := some (.int (zr_mhasBit st (nI j)))) (h' := zH v w t) rfl (zs_mhasBit st (nI j)) ?_
    show zk_T zk_mt zk_ex Ls xs zm_113 (15, [(0, .int st), (1, .int a), (2, .int (nI j))], [.int (zr_mhasBit st (nI j))]) (zH v w t) _
    refine zk_T.br (f1 := (22, [(0, .int st), (1, .int a), (2, .int (nI j))], [])) (f2 := (18, [(0, .int st), (1, .int a), (2, .int (nI j))], [])) rfl (fun c2 => ?_) (fun c2 => ?_)
    · have c2 : (zr_mhasBit st (nI j)) = 0 := of_decide_eq_true c2
      refine zk_T.adv 4 (f' := (4, [(0, .int st), (1, .int a), (2, .int ((nI j) + 1))], [])) (h' := zH v w t) rfl ?_
      rw [nI_1]
      simp only [zl_mhighestG, if_pos c2] at hk
      exact hk
    · have c2 : ¬ ((zr_mhasBit st (nI j)) = 0) := of_decide_eq_false c2
      refine zk_T.adv 5 (f' := (4, [(0, .int st), (1, .int (nI j)), (2, .int ((nI j) + 1))], [])) (h' := zH v w t) rfl ?_
      rw [nI_1]
      simp only [zl_mhighestG, if_neg c2] at hk
      exact hk
  · have hz := True.intro
    obtain ⟨a, rfl⟩ : ∃ z, z = s := ⟨_, rfl⟩
    show zk_T zk_mt zk_ex Ls xs zm_113 (4, [(0, .int st), (1, .int a), (2, .int (nI (0 + 8)))], []) (zH v w t) q
    refine zk_T.adv 2 (f' := (7, [(0, .int st), (1, .int a), (2, .int (nI (0 + 8)))], [.int 8, .int (nI (0 + 8))])) (h' := zH v w t) rfl ?_
    refine zk_T.br (f1 := (30, [(0, .int st), (1, .int a), (2, .int (nI (0 + 8)))], [])) (f2 := (10, [(0, .int st), (1, .int a), (2, .int (nI (0 + 8)))], [])) rfl (fun c1 => ?_) (fun c1 => absurd (by decide) (of_decide_eq_false c1))
    exact hk
  · exact trivial
def zr_mhighest (st : Int32) : Int32 := (zf (zl_mhighestG st) 8 0 (-1))
/-- BasketKeepModel.highest -/
theorem zs_mhighest (st : Int32) : zk_Cr zk_mt zk_ex Ls xs 113 [.int st] (zH v w t) (some (.int (zr_mhighest st)), zH v w t) := by
  refine zk_Cr.of (K := zm_113) rfl rfl rfl ?_
  show zk_T zk_mt zk_ex Ls xs zm_113 (0, [(0, .int st)], []) (zH v w t) _
  refine zk_T.adv 4 (f' := (4, [(0, .int st), (1, .int (-1)), (2, .int 0)], [])) (h' := zH v w t) rfl ?_
  refine zl_mhighest (v := v) (w := w) (t := t) st (-1) _ ?_
  show zk_T zk_mt zk_ex Ls xs zm_113 (30, [(0, .int st), (1, .int (zf (zl_mhighestG st) 8 0 (-1))), (2, .int (nI (0 + 8)))], []) (zH v w t) _
  refine zk_T.adv 1 (f' := (31, [(0, .int st), (1, .int (zf (zl_mhighestG st) 8 0 (-1))), (2, .int (nI (0 + 8)))], [.int (zf (zl_mhighestG st) 8 0 (-1))])) (h' := zH v w t) rfl ?_
  exact zk_T.rt rfl rfl (by rfl)
def zl_mnoSlipsG  (j : Nat) (s : (Nat → Int32)) : (Nat → Int32) := match s with
  | sl => upd sl j 0
theorem zl_mnoSlips  : ∀ (s : (Nat → Int32)) (q : Option Value × zk_H), zk_T zk_mt zk_ex Ls xs zm_58 ((fun (s : (Nat → Int32)) => ((20, [(0, .ref 69), (1, .int (nI (0 + 5)))], []) : zk_F)) (zf (zl_mnoSlipsG ) 5 0 s)) ((fun (s : (Nat → Int32)) => zH (zb v 79 s) w t) (zf (zl_mnoSlipsG ) 5 0 s)) q → zk_T zk_mt zk_ex Ls xs zm_58 (2, [(0, .ref 69), (1, .int (nI 0))], []) (zH (zb v 79 s) w t) q := by
  intro s q hk
  refine zk_forK (M := zm_58) (fun j (s : (Nat → Int32)) => (2, [(0, .ref 69), (1, .int (nI j))], [])) (fun _ (s : (Nat → Int32)) => zH (zb v 79 s) w t) (zl_mnoSlipsG ) (fun _ _ => True) (fun (s : (Nat → Int32)) => (20, [(0, .ref 69), (1, .int (nI (0 + 5)))], [])) (fun (s : (Nat → Int32)) => zH (zb v 79 s) w t) (5) 0 s (fun _ _ _ _ _ => trivial) (fun j s hj1 hj2 hp q hk => ?_) (fun s hp q hk => ?_) ?_ q hk
  · have hz := True.intro
    obtain ⟨sl, rfl⟩ : ∃ z, z = s := ⟨_, rfl⟩
    show zk_T zk_mt zk_ex Ls xs zm_58 (2, [(0, .ref 69), (1, .int (nI j))], []) (zH (zb v 79 sl) w t) q
    refine zk_T.adv 2 (f' := (4, [(0, .ref 69), (1, .int (nI j))], [.int 5, .int (nI j)])) (h' := zH (zb v 79 sl) w t) rfl ?_
    refine zk_T.br (f1 := (20, [(0, .ref 69), (1, .int (nI j))], [])) (f2 := (7, [(0, .ref 69), (1, .int (nI j))], [])) rfl (fun c1 => absurd (of_decide_eq_true c1) (show ¬ 5 ≤ nI j from nI_ge (by omega) (by decide))) (fun c1 => ?_)
    refine zk_T.adv 4 (f' := (13, [(0, .ref 69), (1, .int (nI j))], [.int 0, .int (nI j), .ref 80])) (h' := zH (zb v 79 sl) w t) rfl ?_
    refine zk_T.ob (f' := (14, [(0, .ref 69), (1, .int (nI j))], [])) (h' := zH (zb v 79 (upd sl (nI j).toNatClampNeg 0)) w t) rfl (by first | exact zk_inN (by omega) (by decide) | decide) ?_
    rw [nI_clamp (show j < 2 ^ 31 by omega)]
    refine zk_T.adv 2 (f' := (2, [(0, .ref 69), (1, .int ((nI j) + 1))], [])) (h' := zH (zb v 79 (upd sl j 0)) w t) rfl ?_
    rw [nI_1]
    simp only [zl_mnoSlipsG] at hk
    exact hk
  · have hz := True.intro
    obtain ⟨sl, rfl⟩ : ∃ z, z = s := ⟨_, rfl⟩
    show zk_T zk_mt zk_ex Ls xs zm_58 (2, [(0, .ref 69), (1, .int (nI (0 + 5)))], []) (zH (zb v 79 sl) w t) q
    refine zk_T.adv 2 (f' := (4, [(0, .ref 69), (1, .int (nI (0 + 5)))], [.int 5, .int (nI (0 + 5))])) (h' := zH (zb v 79 sl) w t) rfl ?_
    refine zk_T.br (f1 := (20, [(0, .ref 69), (1, .int (nI (0 + 5)))], [])) (f2 := (7, [(0, .ref 69), (1, .int (nI (0 + 5)))], [])) rfl (fun c1 => ?_) (fun c1 => absurd (by decide) (of_decide_eq_false c1))
    exact hk
  · exact trivial
def zr_mnoSlips (sl : Nat → Int32) : (Nat → Int32) := zf (zl_mnoSlipsG ) 5 0 (sl)
/-- BasketKeepModel.noSlips -/
theorem zs_mnoSlips  : zk_Cr zk_mt zk_ex Ls xs 58 [.ref 69] (zH v w t) (none, zH (zb v 79 (zr_mnoSlips (v 79))) w t) := by
  refine zk_Cr.of (K := zm_58) rfl rfl rfl ?_
  show zk_T zk_mt zk_ex Ls xs zm_58 (0, [(0, .ref 69)], []) (zH v w t) _
  refine zk_T.adv 2 (f' := (2, [(0, .ref 69), (1, .int 0)], [])) (h' := zH v w t) rfl ?_
  refine zl_mnoSlips (v := v) (w := w) (t := t) (v 79) _ ?_
  show zk_T zk_mt zk_ex Ls xs zm_58 (20, [(0, .ref 69), (1, .int (nI (0 + 5)))], []) (zH (zb v 79 (zf (zl_mnoSlipsG ) 5 0 (v 79))) w t) _
  exact zk_T.rt rfl rfl (by simp only [zr_mnoSlips] <;> rfl)
def zl_mstrikersInG (r : Nat → Int32) (y : Int32) (j : Nat) (s : Int32) : Int32 := match s with
  | a => if (y - (r ((7 + (2 * j)) + 1))) < 0 then a ||| 0 else (if ((y - (r ((7 + (2 * j)) + 1))) - (y - (r ((7 + (2 * j)) + 1))) / (r (7 + (2 * j))) * (r (7 + (2 * j)))) = 0 then a ||| ((1 : Int32) <<< ((nI j) &&& 31)) else a ||| 0)
theorem zl_mstrikersIn (D : Nat) (hD : v 71 1 = nI D) (h8 : D ≤ 8) (hev : ∀ d, d < D → ¬ v 71 (7 + 2 * d) = 0) (y : Int32) : ∀ (s : Int32) (q : Option Value × zk_H), zk_T zk_mt zk_ex Ls xs zm_61 ((fun (s : Int32) => ((69, [(0, .ref 69), (1, .int y), (2, .int s), (3, .int (nI (0 + D)))], []) : zk_F)) (zf (zl_mstrikersInG (v 71) y) D 0 s)) ((fun (s : Int32) => zH v w t) (zf (zl_mstrikersInG (v 71) y) D 0 s)) q → zk_T zk_mt zk_ex Ls xs zm_61 (4, [(0, .ref 69), (1, .int y), (2, .int s), (3, .int (nI 0))], []) (zH v w t) q := by
  intro s q hk
  refine zk_forK (M := zm_61) (fun j (s : Int32) => (4, [(0, .ref 69), (1, .int y), (2, .int s), (3, .int (nI j))], [])) (fun _ (s : Int32) => zH v w t) (zl_mstrikersInG (v 71) y) (fun _ _ => True) (fun (s : Int32) => (69, [(0, .ref 69), (1, .int y), (2, .int s), (3, .int (nI (0 + D)))], [])) (fun (s : Int32) => zH v w t) (D) 0 s (fun _ _ _ _ _ => trivial) (fun j s hj1 hj2 hp q hk => ?_) (fun s hp q hk => ?_) ?_ q hk
  · have hz := True.intro
    obtain ⟨a, rfl⟩ : ∃ z, z = s := ⟨_, rfl⟩
    show zk_T zk_mt zk_ex Ls xs zm_61 (4, [(0, .ref 69), (1, .int y), (2, .int a), (3, .int (nI j))], []) (zH v w t) q
    refine zk_T.adv 4 (f' := (10, [(0, .ref 69), (1, .int y), (2, .int a), (3, .int (nI j))], [.int 1, .ref 72, .int (nI j)])) (h' := zH v w t) rfl ?_
    refine zk_T.ob (f' := (11, [(0, .ref 69), (1, .int y), (2, .int a), (3, .int (nI j))], [.int (v 71 (1 : Int32).toNatClampNeg), .int (nI j)])) (h' := zH v w t) rfl rfl ?_
    show zk_T zk_mt zk_ex Ls xs zm_61 (11, [(0, .ref 69), (1, .int y), (2, .int a), (3, .int (nI j))], [.int (v 71 1), .int (nI j)]) (zH v w t) _
    refine zk_T.br (f1 := (69, [(0, .ref 69), (1, .int y), (2, .int a), (3, .int (nI j))], [])) (f2 := (14, [(0, .ref 69), (1, .int y), (2, .int a), (3, .int (nI j))], [])) rfl (fun c1 => absurd (of_decide_eq_true c1) (by rw [show _ = nI D from hD]; exact nI_ge (show j < D by omega) (by omega))) (fun c1 => ?_)
    refine zk_T.adv 7 (f' := (24, [(0, .ref 69), (1, .int y), (2, .int a), (3, .int (nI j))], [.int (2 * (nI j)), .int 7, .ref 72, .int y])) (h' := zH v w t) rfl ?_
    rw [show 2 * (nI j) = nI (2 * j) from pk_mul 2 j]
    refine zk_T.adv 1 (f' := (25, [(0, .ref 69), (1, .int y), (2, .int a), (3, .int (nI j))], [.int (7 + (nI (2 * j))), .ref 72, .int y])) (h' := zH v w t) rfl ?_
    rw [show 7 + (nI (2 * j)) = nI (7 + (2 * j)) from nI_add 7 (2 * j)]
    refine zk_T.adv 2 (f' := (27, [(0, .ref 69), (1, .int y), (2, .int a), (3, .int (nI j))], [.int ((nI (7 + (2 * j))) + 1), .ref 72, .int y])) (h' := zH v w t) rfl ?_
    rw [show (nI (7 + (2 * j))) + 1 = nI ((7 + (2 * j)) + 1) from nI_add (7 + (2 * j)) 1]
    refine zk_T.ob (f' := (28, [(0, .ref 69), (1, .int y), (2, .int a), (3, .int (nI j))], [.int (v 71 (nI ((7 + (2 * j)) + 1)).toNatClampNeg), .int y])) (h' := zH v w t) rfl (by first | exact zk_inN (by omega) (by decide) | decide) ?_
    rw [nI_clamp (show ((7 + (2 * j)) + 1) < 2 ^ 31 by omega)]
    refine zk_T.adv 4 (f' := (34, [(0, .ref 69), (1, .int y), (2, .int a), (3, .int (nI j)), (4, .int (y - (v 71 ((7 + (2 * j)) + 1))))], [.int (y - (v 71 ((7 + (2 * j)) + 1))), .int a])) (h' := zH v w t) rfl ?_
    refine zk_T.br (f1 := (60, [(0, .ref 69), (1, .int y), (2, .int a), (3, .int (nI j)), (4, .int (y - (v 71 ((7 + (2 * j)) + 1))))], [.int a])) (f2 := (37, [(0, .ref 69), (1, .int y), (2, .int a), (3, .int (nI j)), (4, .int (y - (v 71 ((7 + (2 * j)) + 1))))], [.int a])) rfl (fun c2 => ?_) (fun c2 => ?_)
    · have c2 : (y - (v 71 ((7 + (2 * j)) + 1))) < 0 := of_decide_eq_true c2
      refine zk_T.adv 5 (f' := (4, [(0, .ref 69), (1, .int y), (2, .int (a ||| 0)), (3, .int ((nI j) + 1))], [])) (h' := zH v w t) rfl ?_
      rw [nI_1]
      simp only [zl_mstrikersInG, if_pos c2] at hk
      exact hk
    · have c2 : ¬ ((y - (v 71 ((7 + (2 * j)) + 1))) < 0) := of_decide_eq_false c2
      refine zk_T.adv 7 (f' := (48, [(0, .ref 69), (1, .int y), (2, .int a), (3, .int (nI j)), (4, .int (y - (v 71 ((7 + (2 * j)) + 1))))], [.int (2 * (nI j)), .int 7, .ref 72, .int (y - (v 71 ((7 + (2 * j)) + 1))), .int a])) (h' := zH v w t) rfl ?_
      rw [show 2 * (nI j) = nI (2 * j) from pk_mul 2 j]
      refine zk_T.adv 1 (f' := (49, [(0, .ref 69), (1, .int y), (2, .int a), (3, .int (nI j)), (4, .int (y - (v 71 ((7 + (2 * j)) + 1))))], [.int (7 + (nI (2 * j))), .ref 72, .int (y - (v 71 ((7 + (2 * j)) + 1))), .int a])) (h' := zH v w t) rfl ?_
      rw [show 7 + (nI (2 * j)) = nI (7 + (2 * j)) from nI_add 7 (2 * j)]
      refine zk_T.ob (f' := (50, [(0, .ref 69), (1, .int y), (2, .int a), (3, .int (nI j)), (4, .int (y - (v 71 ((7 + (2 * j)) + 1))))], [.int (v 71 (nI (7 + (2 * j))).toNatClampNeg), .int (y - (v 71 ((7 + (2 * j)) + 1))), .int a])) (h' := zH v w t) rfl (by first | exact zk_inN (by omega) (by decide) | decide) ?_
      rw [nI_clamp (show (7 + (2 * j)) < 2 ^ 31 by omega)]
      refine zk_T.ob (f' := (51, [(0, .ref 69), (1, .int y), (2, .int a), (3, .int (nI j)), (4, .int (y - (v 71 ((7 + (2 * j)) + 1))))], [.int ((y - (v 71 ((7 + (2 * j)) + 1))) - (y - (v 71 ((7 + (2 * j)) + 1))) / (v 71 (7 + (2 * j))) * (v 71 (7 + (2 * j)))), .int a])) (h' := zH v w t) rfl (decide_eq_true (hev j (by omega))) ?_
      refine zk_T.br (f1 := (54, [(0, .ref 69), (1, .int y), (2, .int a), (3, .int (nI j)), (4, .int (y - (v 71 ((7 + (2 * j)) + 1))))], [.int a])) (f2 := (60, [(0, .ref 69), (1, .int y), (2, .int a), (3, .int (nI j)), (4, .int (y - (v 71 ((7 + (2 * j)) + 1))))], [.int a])) rfl (fun c3 => ?_) (fun c3 => ?_)
      · have c3 : ((y - (v 71 ((7 + (2 * j)) + 1))) - (y - (v 71 ((7 + (2 * j)) + 1))) / (v 71 (7 + (2 * j))) * (v 71 (7 + (2 * j)))) = 0 := of_decide_eq_true c3
        refine zk_T.adv 8 (f' := (4, [(0, .ref 69), (1, .int y), (2, .int (a ||| ((1 : Int32) <<< ((nI j) &&& 31)))), (3, .int ((nI j) + 1))], [])) (h' := zH v w t) rfl ?_
        rw [nI_1]
        simp only [zl_mstrikersInG, if_neg c2, if_pos c3] at hk
        exact hk
      · have c3 : ¬ (((y - (v 71 ((7 + (2 * j)) + 1))) - (y - (v 71 ((7 + (2 * j)) + 1))) / (v 71 (7 + (2 * j))) * (v 71 (7 + (2 * j)))) = 0) := of_decide_eq_false c3
        refine zk_T.adv 5 (f' := (4, [(0, .ref 69), (1, .int y), (2, .int (a ||| 0)), (3, .int ((nI j) + 1))], [])) (h' := zH v w t) rfl ?_
        rw [nI_1]
        simp only [zl_mstrikersInG, if_neg c2, if_neg c3] at hk
        exact hk
  · have hz := True.intro
    obtain ⟨a, rfl⟩ : ∃ z, z = s := ⟨_, rfl⟩
    show zk_T zk_mt zk_ex Ls xs zm_61 (4, [(0, .ref 69), (1, .int y), (2, .int a), (3, .int (nI (0 + D)))], []) (zH v w t) q
    refine zk_T.adv 4 (f' := (10, [(0, .ref 69), (1, .int y), (2, .int a), (3, .int (nI (0 + D)))], [.int 1, .ref 72, .int (nI (0 + D))])) (h' := zH v w t) rfl ?_
    refine zk_T.ob (f' := (11, [(0, .ref 69), (1, .int y), (2, .int a), (3, .int (nI (0 + D)))], [.int (v 71 (1 : Int32).toNatClampNeg), .int (nI (0 + D))])) (h' := zH v w t) rfl rfl ?_
    show zk_T zk_mt zk_ex Ls xs zm_61 (11, [(0, .ref 69), (1, .int y), (2, .int a), (3, .int (nI (0 + D)))], [.int (v 71 1), .int (nI (0 + D))]) (zH v w t) _
    refine zk_T.br (f1 := (69, [(0, .ref 69), (1, .int y), (2, .int a), (3, .int (nI (0 + D)))], [])) (f2 := (14, [(0, .ref 69), (1, .int y), (2, .int a), (3, .int (nI (0 + D)))], [])) rfl (fun c1 => ?_) (fun c1 => absurd (by rw [show _ = nI D from hD, Nat.zero_add]; exact nI_le (Nat.le_refl _) (by omega)) (of_decide_eq_false c1))
    exact hk
  · exact trivial
def zr_mstrikersIn (D : Nat) (r : Nat → Int32) (y : Int32) : Int32 := (zf (zl_mstrikersInG (r) y) D 0 0)
/-- BasketKeepModel.strikersIn -/
theorem zs_mstrikersIn (D : Nat) (hD : v 71 1 = nI D) (h8 : D ≤ 8) (hev : ∀ d, d < D → ¬ v 71 (7 + 2 * d) = 0) (y : Int32) : zk_Cr zk_mt zk_ex Ls xs 61 [.ref 69, .int y] (zH v w t) (some (.int (zr_mstrikersIn D (v 71) y)), zH v w t) := by
  refine zk_Cr.of (K := zm_61) rfl rfl rfl ?_
  show zk_T zk_mt zk_ex Ls xs zm_61 (0, [(0, .ref 69), (1, .int y)], []) (zH v w t) _
  refine zk_T.adv 4 (f' := (4, [(0, .ref 69), (1, .int y), (2, .int 0), (3, .int 0)], [])) (h' := zH v w t) rfl ?_
  refine zl_mstrikersIn (v := v) (w := w) (t := t) D hD h8 hev y 0 _ ?_
  show zk_T zk_mt zk_ex Ls xs zm_61 (69, [(0, .ref 69), (1, .int y), (2, .int (zf (zl_mstrikersInG (v 71) y) D 0 0)), (3, .int (nI (0 + D)))], []) (zH v w t) _
  refine zk_T.adv 1 (f' := (70, [(0, .ref 69), (1, .int y), (2, .int (zf (zl_mstrikersInG (v 71) y) D 0 0)), (3, .int (nI (0 + D)))], [.int (zf (zl_mstrikersInG (v 71) y) D 0 0)])) (h' := zH v w t) rfl ?_
  exact zk_T.rt rfl rfl (by rfl)
def zr_moutOf (r row slp : Nat → Int32) (e : Nat) (y : Int32) : Int32 := if (row e) = 0 then 0 else (if (r (23 + (2 * e))) = 2 then if (y - y / 2 * 2) = 1 then 0 else (if (r (23 + (2 * e))) = 1 then if (row (5 + e)) = 0 then ((row (5 + e)) &&& ((slp e) ^^^ (-1))) else (((row (5 + e)) &&& (((1 : Int32) <<< ((zr_mhighest (row (5 + e))) &&& 31)) ^^^ (-1))) &&& ((slp e) ^^^ (-1))) else ((row (5 + e)) &&& ((slp e) ^^^ (-1)))) else (if (r (23 + (2 * e))) = 1 then if (row (5 + e)) = 0 then ((row (5 + e)) &&& ((slp e) ^^^ (-1))) else (((row (5 + e)) &&& (((1 : Int32) <<< ((zr_mhighest (row (5 + e))) &&& 31)) ^^^ (-1))) &&& ((slp e) ^^^ (-1))) else ((row (5 + e)) &&& ((slp e) ^^^ (-1)))))
/-- BasketKeepModel.outOf -/
theorem zs_moutOfT (e : Nat) (he : e < 5) (y : Int32) : zk_Cr zk_mt zk_ex Ls xs 172 [.ref 69, .ref 77, .int (nI e), .int y] (zH v w t) (some (.int (zr_moutOf (v 71) (v 76) (v 79) e y)), zH v w t) := by
  refine zk_Cr.of (K := zm_172) rfl rfl rfl ?_
  show zk_T zk_mt zk_ex Ls xs zm_172 (0, [(0, .ref 69), (1, .ref 77), (2, .int (nI e)), (3, .int y)], []) (zH v w t) _
  refine zk_T.adv 2 (f' := (2, [(0, .ref 69), (1, .ref 77), (2, .int (nI e)), (3, .int y)], [.int (nI e), .ref 77])) (h' := zH v w t) rfl ?_
  refine zk_T.ob (f' := (3, [(0, .ref 69), (1, .ref 77), (2, .int (nI e)), (3, .int y)], [.int (v 76 (nI e).toNatClampNeg)])) (h' := zH v w t) rfl (by first | exact zk_inN (by omega) (by decide) | decide) ?_
  rw [nI_clamp (show e < 2 ^ 31 by omega)]
  refine zk_T.br (f1 := (6, [(0, .ref 69), (1, .ref 77), (2, .int (nI e)), (3, .int y)], [])) (f2 := (8, [(0, .ref 69), (1, .ref 77), (2, .int (nI e)), (3, .int y)], [])) rfl (fun c1 => ?_) (fun c1 => ?_)
  · have c1 : (v 76 e) = 0 := of_decide_eq_true c1
    refine zk_T.adv 1 (f' := (7, [(0, .ref 69), (1, .ref 77), (2, .int (nI e)), (3, .int y)], [.int 0])) (h' := zH v w t) rfl ?_
    exact zk_T.rt rfl rfl (by simp only [zr_moutOf, if_pos c1])
  · have c1 : ¬ ((v 76 e) = 0) := of_decide_eq_false c1
    refine zk_T.adv 4 (f' := (12, [(0, .ref 69), (1, .ref 77), (2, .int (nI e)), (3, .int y)], [.int (5 + (nI e)), .ref 77])) (h' := zH v w t) rfl ?_
    rw [show 5 + (nI e) = nI (5 + e) from nI_add 5 e]
    refine zk_T.ob (f' := (13, [(0, .ref 69), (1, .ref 77), (2, .int (nI e)), (3, .int y)], [.int (v 76 (nI (5 + e)).toNatClampNeg)])) (h' := zH v w t) rfl (by first | exact zk_inN (by omega) (by decide) | decide) ?_
    rw [nI_clamp (show (5 + e) < 2 ^ 31 by omega)]
    refine zk_T.adv 7 (f' := (24, [(0, .ref 69), (1, .ref 77), (2, .int (nI e)), (3, .int y), (4, .int (v 76 (5 + e)))], [.int (2 * (nI e)), .int 23, .ref 72])) (h' := zH v w t) rfl ?_
    rw [show 2 * (nI e) = nI (2 * e) from pk_mul 2 e]
    refine zk_T.adv 1 (f' := (25, [(0, .ref 69), (1, .ref 77), (2, .int (nI e)), (3, .int y), (4, .int (v 76 (5 + e)))], [.int (23 + (nI (2 * e))), .ref 72])) (h' := zH v w t) rfl ?_
    rw [show 23 + (nI (2 * e)) = nI (23 + (2 * e)) from nI_add 23 (2 * e)]
    refine zk_T.ob (f' := (26, [(0, .ref 69), (1, .ref 77), (2, .int (nI e)), (3, .int y), (4, .int (v 76 (5 + e)))], [.int (v 71 (nI (23 + (2 * e))).toNatClampNeg)])) (h' := zH v w t) rfl (by first | exact zk_inN (by omega) (by decide) | decide) ?_
    rw [nI_clamp (show (23 + (2 * e)) < 2 ^ 31 by omega)]
    refine zk_T.adv 3 (f' := (31, [(0, .ref 69), (1, .ref 77), (2, .int (nI e)), (3, .int y), (4, .int (v 76 (5 + e))), (5, .int (v 71 (23 + (2 * e))))], [.int 2, .int (v 71 (23 + (2 * e)))])) (h' := zH v w t) rfl ?_
    refine zk_T.br (f1 := (34, [(0, .ref 69), (1, .ref 77), (2, .int (nI e)), (3, .int y), (4, .int (v 76 (5 + e))), (5, .int (v 71 (23 + (2 * e))))], [])) (f2 := (43, [(0, .ref 69), (1, .ref 77), (2, .int (nI e)), (3, .int y), (4, .int (v 76 (5 + e))), (5, .int (v 71 (23 + (2 * e))))], [])) rfl (fun c2 => ?_) (fun c2 => ?_)
    · have c2 : (v 71 (23 + (2 * e))) = 2 := of_decide_eq_true c2
      refine zk_T.adv 2 (f' := (36, [(0, .ref 69), (1, .ref 77), (2, .int (nI e)), (3, .int y), (4, .int (v 76 (5 + e))), (5, .int (v 71 (23 + (2 * e))))], [.int 2, .int y])) (h' := zH v w t) rfl ?_
      refine zk_T.ob (f' := (37, [(0, .ref 69), (1, .ref 77), (2, .int (nI e)), (3, .int y), (4, .int (v 76 (5 + e))), (5, .int (v 71 (23 + (2 * e))))], [.int (y - y / 2 * 2)])) (h' := zH v w t) rfl (by decide) ?_
      refine zk_T.adv 1 (f' := (38, [(0, .ref 69), (1, .ref 77), (2, .int (nI e)), (3, .int y), (4, .int (v 76 (5 + e))), (5, .int (v 71 (23 + (2 * e))))], [.int 1, .int (y - y / 2 * 2)])) (h' := zH v w t) rfl ?_
      refine zk_T.br (f1 := (41, [(0, .ref 69), (1, .ref 77), (2, .int (nI e)), (3, .int y), (4, .int (v 76 (5 + e))), (5, .int (v 71 (23 + (2 * e))))], [])) (f2 := (43, [(0, .ref 69), (1, .ref 77), (2, .int (nI e)), (3, .int y), (4, .int (v 76 (5 + e))), (5, .int (v 71 (23 + (2 * e))))], [])) rfl (fun c3 => ?_) (fun c3 => ?_)
      · have c3 : (y - y / 2 * 2) = 1 := of_decide_eq_true c3
        refine zk_T.adv 1 (f' := (42, [(0, .ref 69), (1, .ref 77), (2, .int (nI e)), (3, .int y), (4, .int (v 76 (5 + e))), (5, .int (v 71 (23 + (2 * e))))], [.int 0])) (h' := zH v w t) rfl ?_
        exact zk_T.rt rfl rfl (by simp only [zr_moutOf, if_neg c1, if_pos c2, if_pos c3])
      · have c3 : ¬ ((y - y / 2 * 2) = 1) := of_decide_eq_false c3
        refine zk_T.adv 2 (f' := (46, [(0, .ref 69), (1, .ref 77), (2, .int (nI e)), (3, .int y), (4, .int (v 76 (5 + e))), (5, .int (v 71 (23 + (2 * e))))], [.int 1, .int (v 71 (23 + (2 * e)))])) (h' := zH v w t) rfl ?_
        refine zk_T.br (f1 := (49, [(0, .ref 69), (1, .ref 77), (2, .int (nI e)), (3, .int y), (4, .int (v 76 (5 + e))), (5, .int (v 71 (23 + (2 * e))))], [])) (f2 := (68, [(0, .ref 69), (1, .ref 77), (2, .int (nI e)), (3, .int y), (4, .int (v 76 (5 + e))), (5, .int (v 71 (23 + (2 * e))))], [])) rfl (fun c4 => ?_) (fun c4 => ?_)
        · have c4 : (v 71 (23 + (2 * e))) = 1 := of_decide_eq_true c4
          refine zk_T.adv 1 (f' := (51, [(0, .ref 69), (1, .ref 77), (2, .int (nI e)), (3, .int y), (4, .int (v 76 (5 + e))), (5, .int (v 71 (23 + (2 * e))))], [.int (v 76 (5 + e))])) (h' := zH v w t) rfl ?_
          refine zk_T.br (f1 := (68, [(0, .ref 69), (1, .ref 77), (2, .int (nI e)), (3, .int y), (4, .int (v 76 (5 + e))), (5, .int (v 71 (23 + (2 * e))))], [])) (f2 := (54, [(0, .ref 69), (1, .ref 77), (2, .int (nI e)), (3, .int y), (4, .int (v 76 (5 + e))), (5, .int (v 71 (23 + (2 * e))))], [])) rfl (fun c5 => ?_) (fun c5 => ?_)
          · have c5 : (v 76 (5 + e)) = 0 := of_decide_eq_true c5
            refine zk_T.adv 4 (f' := (75, [(0, .ref 69), (1, .ref 77), (2, .int (nI e)), (3, .int y), (4, .int (v 76 (5 + e))), (5, .int (v 71 (23 + (2 * e))))], [.int (nI e), .ref 80, .int (v 76 (5 + e))])) (h' := zH v w t) rfl ?_
            refine zk_T.ob (f' := (76, [(0, .ref 69), (1, .ref 77), (2, .int (nI e)), (3, .int y), (4, .int (v 76 (5 + e))), (5, .int (v 71 (23 + (2 * e))))], [.int (v 79 (nI e).toNatClampNeg), .int (v 76 (5 + e))])) (h' := zH v w t) rfl (by first | exact zk_inN (by omega) (by decide) | decide) ?_
            rw [nI_clamp (show e < 2 ^ 31 by omega)]
            refine zk_T.adv 3 (f' := (79, [(0, .ref 69), (1, .ref 77), (2, .int (nI e)), (3, .int y), (4, .int (v 76 (5 + e))), (5, .int (v 71 (23 + (2 * e))))], [.int ((v 76 (5 + e)) &&& ((v 79 e) ^^^ (-1)))])) (h' := zH v w t) rfl ?_
            exact zk_T.rt rfl rfl (by simp only [zr_moutOf, if_neg c1, if_pos c2, if_neg c3, if_pos c4, if_pos c5])
          · have c5 : ¬ ((v 76 (5 + e)) = 0) := of_decide_eq_false c5
            refine zk_T.adv 3 (f' := (59, [(0, .ref 69), (1, .ref 77), (2, .int (nI e)), (3, .int y), (4, .int (v 76 (5 + e))), (5, .int (v 71 (23 + (2 * e))))], [.int (v 76 (5 + e)), .int 1, .int (v 76 (5 + e))])) (h' := zH v w t) rfl ?_
            refine zk_T.cl (v := some (.int (zr_mhighest (v 76 (5 + e))))) (h' := zH v w t) rfl (zs_mhighest (v 76 (5 + e))) ?_
            show zk_T zk_mt zk_ex Ls xs zm_172 (62, [(0, .ref 69), (1, .ref 77), (2, .int (nI e)), (3, .int y), (4, .int (v 76 (5 + e))), (5, .int (v 71 (23 + (2 * e))))], [.int (zr_mhighest (v 76 (5 + e))), .int 1, .int (v 76 (5 + e))]) (zH v w t) _
            refine zk_T.adv 9 (f' := (75, [(0, .ref 69), (1, .ref 77), (2, .int (nI e)), (3, .int y), (4, .int ((v 76 (5 + e)) &&& (((1 : Int32) <<< ((zr_mhighest (v 76 (5 + e))) &&& 31)) ^^^ (-1)))), (5, .int (v 71 (23 + (2 * e))))], [.int (nI e), .ref 80, .int ((v 76 (5 + e)) &&& (((1 : Int32) <<< ((zr_mhighest (v 76 (5 + e))) &&& 31)) ^^^ (-1)))])) (h' := zH v w t) rfl ?_
            refine zk_T.ob (f' := (76, [(0, .ref 69), (1, .ref 77), (2, .int (nI e)), (3, .int y), (4, .int ((v 76 (5 + e)) &&& (((1 : Int32) <<< ((zr_mhighest (v 76 (5 + e))) &&& 31)) ^^^ (-1)))), (5, .int (v 71 (23 + (2 * e))))], [.int (v 79 (nI e).toNatClampNeg), .int ((v 76 (5 + e)) &&& (((1 : Int32) <<< ((zr_mhighest (v 76 (5 + e))) &&& 31)) ^^^ (-1)))])) (h' := zH v w t) rfl (by first | exact zk_inN (by omega) (by decide) | decide) ?_
            rw [nI_clamp (show e < 2 ^ 31 by omega)]
            refine zk_T.adv 3 (f' := (79, [(0, .ref 69), (1, .ref 77), (2, .int (nI e)), (3, .int y), (4, .int ((v 76 (5 + e)) &&& (((1 : Int32) <<< ((zr_mhighest (v 76 (5 + e))) &&& 31)) ^^^ (-1)))), (5, .int (v 71 (23 + (2 * e))))], [.int (((v 76 (5 + e)) &&& (((1 : Int32) <<< ((zr_mhighest (v 76 (5 + e))) &&& 31)) ^^^ (-1))) &&& ((v 79 e) ^^^ (-1)))])) (h' := zH v w t) rfl ?_
            exact zk_T.rt rfl rfl (by simp only [zr_moutOf, if_neg c1, if_pos c2, if_neg c3, if_pos c4, if_neg c5])
        · have c4 : ¬ ((v 71 (23 + (2 * e))) = 1) := of_decide_eq_false c4
          refine zk_T.adv 4 (f' := (75, [(0, .ref 69), (1, .ref 77), (2, .int (nI e)), (3, .int y), (4, .int (v 76 (5 + e))), (5, .int (v 71 (23 + (2 * e))))], [.int (nI e), .ref 80, .int (v 76 (5 + e))])) (h' := zH v w t) rfl ?_
          refine zk_T.ob (f' := (76, [(0, .ref 69), (1, .ref 77), (2, .int (nI e)), (3, .int y), (4, .int (v 76 (5 + e))), (5, .int (v 71 (23 + (2 * e))))], [.int (v 79 (nI e).toNatClampNeg), .int (v 76 (5 + e))])) (h' := zH v w t) rfl (by first | exact zk_inN (by omega) (by decide) | decide) ?_
          rw [nI_clamp (show e < 2 ^ 31 by omega)]
          refine zk_T.adv 3 (f' := (79, [(0, .ref 69), (1, .ref 77), (2, .int (nI e)), (3, .int y), (4, .int (v 76 (5 + e))), (5, .int (v 71 (23 + (2 * e))))], [.int ((v 76 (5 + e)) &&& ((v 79 e) ^^^ (-1)))])) (h' := zH v w t) rfl ?_
          exact zk_T.rt rfl rfl (by simp only [zr_moutOf, if_neg c1, if_pos c2, if_neg c3, if_neg c4])
    · have c2 : ¬ ((v 71 (23 + (2 * e))) = 2) := of_decide_eq_false c2
      refine zk_T.adv 2 (f' := (46, [(0, .ref 69), (1, .ref 77), (2, .int (nI e)), (3, .int y), (4, .int (v 76 (5 + e))), (5, .int (v 71 (23 + (2 * e))))], [.int 1, .int (v 71 (23 + (2 * e)))])) (h' := zH v w t) rfl ?_
      refine zk_T.br (f1 := (49, [(0, .ref 69), (1, .ref 77), (2, .int (nI e)), (3, .int y), (4, .int (v 76 (5 + e))), (5, .int (v 71 (23 + (2 * e))))], [])) (f2 := (68, [(0, .ref 69), (1, .ref 77), (2, .int (nI e)), (3, .int y), (4, .int (v 76 (5 + e))), (5, .int (v 71 (23 + (2 * e))))], [])) rfl (fun c6 => ?_) (fun c6 => ?_)
      · have c6 : (v 71 (23 + (2 * e))) = 1 := of_decide_eq_true c6
        refine zk_T.adv 1 (f' := (51, [(0, .ref 69), (1, .ref 77), (2, .int (nI e)), (3, .int y), (4, .int (v 76 (5 + e))), (5, .int (v 71 (23 + (2 * e))))], [.int (v 76 (5 + e))])) (h' := zH v w t) rfl ?_
        refine zk_T.br (f1 := (68, [(0, .ref 69), (1, .ref 77), (2, .int (nI e)), (3, .int y), (4, .int (v 76 (5 + e))), (5, .int (v 71 (23 + (2 * e))))], [])) (f2 := (54, [(0, .ref 69), (1, .ref 77), (2, .int (nI e)), (3, .int y), (4, .int (v 76 (5 + e))), (5, .int (v 71 (23 + (2 * e))))], [])) rfl (fun c7 => ?_) (fun c7 => ?_)
        · have c7 : (v 76 (5 + e)) = 0 := of_decide_eq_true c7
          refine zk_T.adv 4 (f' := (75, [(0, .ref 69), (1, .ref 77), (2, .int (nI e)), (3, .int y), (4, .int (v 76 (5 + e))), (5, .int (v 71 (23 + (2 * e))))], [.int (nI e), .ref 80, .int (v 76 (5 + e))])) (h' := zH v w t) rfl ?_
          refine zk_T.ob (f' := (76, [(0, .ref 69), (1, .ref 77), (2, .int (nI e)), (3, .int y), (4, .int (v 76 (5 + e))), (5, .int (v 71 (23 + (2 * e))))], [.int (v 79 (nI e).toNatClampNeg), .int (v 76 (5 + e))])) (h' := zH v w t) rfl (by first | exact zk_inN (by omega) (by decide) | decide) ?_
          rw [nI_clamp (show e < 2 ^ 31 by omega)]
          refine zk_T.adv 3 (f' := (79, [(0, .ref 69), (1, .ref 77), (2, .int (nI e)), (3, .int y), (4, .int (v 76 (5 + e))), (5, .int (v 71 (23 + (2 * e))))], [.int ((v 76 (5 + e)) &&& ((v 79 e) ^^^ (-1)))])) (h' := zH v w t) rfl ?_
          exact zk_T.rt rfl rfl (by simp only [zr_moutOf, if_neg c1, if_neg c2, if_pos c6, if_pos c7])
        · have c7 : ¬ ((v 76 (5 + e)) = 0) := of_decide_eq_false c7
          refine zk_T.adv 3 (f' := (59, [(0, .ref 69), (1, .ref 77), (2, .int (nI e)), (3, .int y), (4, .int (v 76 (5 + e))), (5, .int (v 71 (23 + (2 * e))))], [.int (v 76 (5 + e)), .int 1, .int (v 76 (5 + e))])) (h' := zH v w t) rfl ?_
          refine zk_T.cl (v := some (.int (zr_mhighest (v 76 (5 + e))))) (h' := zH v w t) rfl (zs_mhighest (v 76 (5 + e))) ?_
          show zk_T zk_mt zk_ex Ls xs zm_172 (62, [(0, .ref 69), (1, .ref 77), (2, .int (nI e)), (3, .int y), (4, .int (v 76 (5 + e))), (5, .int (v 71 (23 + (2 * e))))], [.int (zr_mhighest (v 76 (5 + e))), .int 1, .int (v 76 (5 + e))]) (zH v w t) _
          refine zk_T.adv 9 (f' := (75, [(0, .ref 69), (1, .ref 77), (2, .int (nI e)), (3, .int y), (4, .int ((v 76 (5 + e)) &&& (((1 : Int32) <<< ((zr_mhighest (v 76 (5 + e))) &&& 31)) ^^^ (-1)))), (5, .int (v 71 (23 + (2 * e))))], [.int (nI e), .ref 80, .int ((v 76 (5 + e)) &&& (((1 : Int32) <<< ((zr_mhighest (v 76 (5 + e))) &&& 31)) ^^^ (-1)))])) (h' := zH v w t) rfl ?_
          refine zk_T.ob (f' := (76, [(0, .ref 69), (1, .ref 77), (2, .int (nI e)), (3, .int y), (4, .int ((v 76 (5 + e)) &&& (((1 : Int32) <<< ((zr_mhighest (v 76 (5 + e))) &&& 31)) ^^^ (-1)))), (5, .int (v 71 (23 + (2 * e))))], [.int (v 79 (nI e).toNatClampNeg), .int ((v 76 (5 + e)) &&& (((1 : Int32) <<< ((zr_mhighest (v 76 (5 + e))) &&& 31)) ^^^ (-1)))])) (h' := zH v w t) rfl (by first | exact zk_inN (by omega) (by decide) | decide) ?_
          rw [nI_clamp (show e < 2 ^ 31 by omega)]
          refine zk_T.adv 3 (f' := (79, [(0, .ref 69), (1, .ref 77), (2, .int (nI e)), (3, .int y), (4, .int ((v 76 (5 + e)) &&& (((1 : Int32) <<< ((zr_mhighest (v 76 (5 + e))) &&& 31)) ^^^ (-1)))), (5, .int (v 71 (23 + (2 * e))))], [.int (((v 76 (5 + e)) &&& (((1 : Int32) <<< ((zr_mhighest (v 76 (5 + e))) &&& 31)) ^^^ (-1))) &&& ((v 79 e) ^^^ (-1)))])) (h' := zH v w t) rfl ?_
          exact zk_T.rt rfl rfl (by simp only [zr_moutOf, if_neg c1, if_neg c2, if_pos c6, if_neg c7])
      · have c6 : ¬ ((v 71 (23 + (2 * e))) = 1) := of_decide_eq_false c6
        refine zk_T.adv 4 (f' := (75, [(0, .ref 69), (1, .ref 77), (2, .int (nI e)), (3, .int y), (4, .int (v 76 (5 + e))), (5, .int (v 71 (23 + (2 * e))))], [.int (nI e), .ref 80, .int (v 76 (5 + e))])) (h' := zH v w t) rfl ?_
        refine zk_T.ob (f' := (76, [(0, .ref 69), (1, .ref 77), (2, .int (nI e)), (3, .int y), (4, .int (v 76 (5 + e))), (5, .int (v 71 (23 + (2 * e))))], [.int (v 79 (nI e).toNatClampNeg), .int (v 76 (5 + e))])) (h' := zH v w t) rfl (by first | exact zk_inN (by omega) (by decide) | decide) ?_
        rw [nI_clamp (show e < 2 ^ 31 by omega)]
        refine zk_T.adv 3 (f' := (79, [(0, .ref 69), (1, .ref 77), (2, .int (nI e)), (3, .int y), (4, .int (v 76 (5 + e))), (5, .int (v 71 (23 + (2 * e))))], [.int ((v 76 (5 + e)) &&& ((v 79 e) ^^^ (-1)))])) (h' := zH v w t) rfl ?_
        exact zk_T.rt rfl rfl (by simp only [zr_moutOf, if_neg c1, if_neg c2, if_neg c6])
def zr_mstB (r row slp : Nat → Int32) (ou : Int32) (lt lw oo : Nat → Int32) (d a : Nat) : (Nat → Int32) × Int32 × (Nat → Int32) × (Nat → Int32) × (Nat → Int32) := if (zr_mhasBit (r ((33 + (2 * a)) + 1)) (nI d)) = 0 then (row, ou, lt, lw, oo) else (upd (row) 14 ((row 14) ||| ((1 : Int32) <<< ((nI a) &&& 31))), ou, upd (lt) d ((lt d) + (r (33 + (2 * a)))), upd (lw) a (nI d), oo)
/-- BasketKeepModel.strikeOn -/
theorem zs_mstBT (d a : Nat) (hd : d < 8) (ha : a < 4) (hB : v 76 (10 + a) = 0) : zk_Cr zk_mt zk_ex Ls xs 209 [.ref 69, .ref 77, .int (nI d), .int (nI a)] (zH v w t) (none, zH (zb (zb (zb (zb (zb v 68 (upd (v 68) 26 ((zr_mstB (v 71) (v 76) (v 79) (v 68 26) (v 80) (v 81) (v 82) d a).2.1))) 76 ((zr_mstB (v 71) (v 76) (v 79) (v 68 26) (v 80) (v 81) (v 82) d a).1)) 80 ((zr_mstB (v 71) (v 76) (v 79) (v 68 26) (v 80) (v 81) (v 82) d a).2.2.1)) 81 ((zr_mstB (v 71) (v 76) (v 79) (v 68 26) (v 80) (v 81) (v 82) d a).2.2.2.1)) 82 ((zr_mstB (v 71) (v 76) (v 79) (v 68 26) (v 80) (v 81) (v 82) d a).2.2.2.2)) w t) := by
  refine zk_Cr.of (K := zm_209) rfl rfl rfl ?_
  show zk_T zk_mt zk_ex Ls xs zm_209 (0, [(0, .ref 69), (1, .ref 77), (2, .int (nI d)), (3, .int (nI a))], []) (zH v w t) _
  refine zk_T.adv 4 (f' := (5, [(0, .ref 69), (1, .ref 77), (2, .int (nI d)), (3, .int (nI a))], [.int (10 + (nI a)), .ref 77])) (h' := zH v w t) rfl ?_
  rw [show 10 + (nI a) = nI (10 + a) from nI_add 10 a]
  refine zk_T.ob (f' := (6, [(0, .ref 69), (1, .ref 77), (2, .int (nI d)), (3, .int (nI a))], [.int (v 76 (nI (10 + a)).toNatClampNeg)])) (h' := zH v w t) rfl (by first | exact zk_inN (by omega) (by decide) | decide) ?_
  rw [nI_clamp (show (10 + a) < 2 ^ 31 by omega)]
  rw [hB]
  refine zk_T.adv 4 (f' := (12, [(0, .ref 69), (1, .ref 77), (2, .int (nI d)), (3, .int (nI a)), (4, .int (-1))], [.int (-1)])) (h' := zH v w t) rfl ?_
  refine zk_T.br (f1 := (65, [(0, .ref 69), (1, .ref 77), (2, .int (nI d)), (3, .int (nI a)), (4, .int (-1))], [])) (f2 := (15, [(0, .ref 69), (1, .ref 77), (2, .int (nI d)), (3, .int (nI a)), (4, .int (-1))], [])) rfl (fun c1 => ?_) (fun c1 => absurd (by decide) (of_decide_eq_false c1))
  refine zk_T.adv 6 (f' := (74, [(0, .ref 69), (1, .ref 77), (2, .int (nI d)), (3, .int (nI a)), (4, .int (-1))], [.int (2 * (nI a)), .int 33, .ref 72])) (h' := zH v w t) rfl ?_
  rw [show 2 * (nI a) = nI (2 * a) from pk_mul 2 a]
  refine zk_T.adv 1 (f' := (75, [(0, .ref 69), (1, .ref 77), (2, .int (nI d)), (3, .int (nI a)), (4, .int (-1))], [.int (33 + (nI (2 * a))), .ref 72])) (h' := zH v w t) rfl ?_
  rw [show 33 + (nI (2 * a)) = nI (33 + (2 * a)) from nI_add 33 (2 * a)]
  refine zk_T.adv 2 (f' := (77, [(0, .ref 69), (1, .ref 77), (2, .int (nI d)), (3, .int (nI a)), (4, .int (-1))], [.int ((nI (33 + (2 * a))) + 1), .ref 72])) (h' := zH v w t) rfl ?_
  rw [show (nI (33 + (2 * a))) + 1 = nI ((33 + (2 * a)) + 1) from nI_add (33 + (2 * a)) 1]
  refine zk_T.ob (f' := (78, [(0, .ref 69), (1, .ref 77), (2, .int (nI d)), (3, .int (nI a)), (4, .int (-1))], [.int (v 71 (nI ((33 + (2 * a)) + 1)).toNatClampNeg)])) (h' := zH v w t) rfl (by first | exact zk_inN (by omega) (by decide) | decide) ?_
  rw [nI_clamp (show ((33 + (2 * a)) + 1) < 2 ^ 31 by omega)]
  refine zk_T.adv 1 (f' := (79, [(0, .ref 69), (1, .ref 77), (2, .int (nI d)), (3, .int (nI a)), (4, .int (-1))], [.int (nI d), .int (v 71 ((33 + (2 * a)) + 1))])) (h' := zH v w t) rfl ?_
  refine zk_T.cl (v := some (.int (zr_mhasBit (v 71 ((33 + (2 * a)) + 1)) (nI d)))) (h' := zH v w t) rfl (zs_mhasBit (v 71 ((33 + (2 * a)) + 1)) (nI d)) ?_
  show zk_T zk_mt zk_ex Ls xs zm_209 (82, [(0, .ref 69), (1, .ref 77), (2, .int (nI d)), (3, .int (nI a)), (4, .int (-1))], [.int (zr_mhasBit (v 71 ((33 + (2 * a)) + 1)) (nI d))]) (zH v w t) _
  refine zk_T.br (f1 := (122, [(0, .ref 69), (1, .ref 77), (2, .int (nI d)), (3, .int (nI a)), (4, .int (-1))], [])) (f2 := (85, [(0, .ref 69), (1, .ref 77), (2, .int (nI d)), (3, .int (nI a)), (4, .int (-1))], [])) rfl (fun c2 => ?_) (fun c2 => ?_)
  · have c2 : (zr_mhasBit (v 71 ((33 + (2 * a)) + 1)) (nI d)) = 0 := of_decide_eq_true c2
    exact zk_T.rt rfl rfl (by simp only [zr_mstB, if_pos c2] <;> rfl)
  · have c2 : ¬ ((zr_mhasBit (v 71 ((33 + (2 * a)) + 1)) (nI d)) = 0) := of_decide_eq_false c2
    refine zk_T.adv 3 (f' := (89, [(0, .ref 69), (1, .ref 77), (2, .int (nI d)), (3, .int (nI a)), (4, .int (-1))], [.int 14, .ref 77, .int 14, .ref 77])) (h' := zH v w t) rfl ?_
    refine zk_T.ob (f' := (90, [(0, .ref 69), (1, .ref 77), (2, .int (nI d)), (3, .int (nI a)), (4, .int (-1))], [.int (v 76 (14 : Int32).toNatClampNeg), .int 14, .ref 77])) (h' := zH v w t) rfl rfl ?_
    show zk_T zk_mt zk_ex Ls xs zm_209 (90, [(0, .ref 69), (1, .ref 77), (2, .int (nI d)), (3, .int (nI a)), (4, .int (-1))], [.int (v 76 14), .int 14, .ref 77]) (zH v w t) _
    refine zk_T.adv 4 (f' := (94, [(0, .ref 69), (1, .ref 77), (2, .int (nI d)), (3, .int (nI a)), (4, .int (-1))], [.int ((v 76 14) ||| ((1 : Int32) <<< ((nI a) &&& 31))), .int 14, .ref 77])) (h' := zH v w t) rfl ?_
    refine zk_T.ob (f' := (95, [(0, .ref 69), (1, .ref 77), (2, .int (nI d)), (3, .int (nI a)), (4, .int (-1))], [])) (h' := zH (zb v 76 (upd (v 76) (14 : Int32).toNatClampNeg ((v 76 14) ||| ((1 : Int32) <<< ((nI a) &&& 31))))) w t) rfl rfl ?_
    show zk_T zk_mt zk_ex Ls xs zm_209 (95, [(0, .ref 69), (1, .ref 77), (2, .int (nI d)), (3, .int (nI a)), (4, .int (-1))], []) (zH (zb v 76 (upd (v 76) 14 ((v 76 14) ||| ((1 : Int32) <<< ((nI a) &&& 31))))) w t) _
    refine zk_T.adv 4 (f' := (101, [(0, .ref 69), (1, .ref 77), (2, .int (nI d)), (3, .int (nI a)), (4, .int (-1))], [.int (nI d), .ref 81, .int (nI d), .ref 81])) (h' := zH (zb v 76 (upd (v 76) 14 ((v 76 14) ||| ((1 : Int32) <<< ((nI a) &&& 31))))) w t) rfl ?_
    refine zk_T.ob (f' := (102, [(0, .ref 69), (1, .ref 77), (2, .int (nI d)), (3, .int (nI a)), (4, .int (-1))], [.int (v 80 (nI d).toNatClampNeg), .int (nI d), .ref 81])) (h' := zH (zb v 76 (upd (v 76) 14 ((v 76 14) ||| ((1 : Int32) <<< ((nI a) &&& 31))))) w t) rfl (by first | exact zk_inN (by omega) (by decide) | decide) ?_
    rw [nI_clamp (show d < 2 ^ 31 by omega)]
    refine zk_T.adv 6 (f' := (111, [(0, .ref 69), (1, .ref 77), (2, .int (nI d)), (3, .int (nI a)), (4, .int (-1))], [.int (2 * (nI a)), .int 33, .ref 72, .int (v 80 d), .int (nI d), .ref 81])) (h' := zH (zb v 76 (upd (v 76) 14 ((v 76 14) ||| ((1 : Int32) <<< ((nI a) &&& 31))))) w t) rfl ?_
    rw [show 2 * (nI a) = nI (2 * a) from pk_mul 2 a]
    refine zk_T.adv 1 (f' := (112, [(0, .ref 69), (1, .ref 77), (2, .int (nI d)), (3, .int (nI a)), (4, .int (-1))], [.int (33 + (nI (2 * a))), .ref 72, .int (v 80 d), .int (nI d), .ref 81])) (h' := zH (zb v 76 (upd (v 76) 14 ((v 76 14) ||| ((1 : Int32) <<< ((nI a) &&& 31))))) w t) rfl ?_
    rw [show 33 + (nI (2 * a)) = nI (33 + (2 * a)) from nI_add 33 (2 * a)]
    refine zk_T.ob (f' := (113, [(0, .ref 69), (1, .ref 77), (2, .int (nI d)), (3, .int (nI a)), (4, .int (-1))], [.int (v 71 (nI (33 + (2 * a))).toNatClampNeg), .int (v 80 d), .int (nI d), .ref 81])) (h' := zH (zb v 76 (upd (v 76) 14 ((v 76 14) ||| ((1 : Int32) <<< ((nI a) &&& 31))))) w t) rfl (by first | exact zk_inN (by omega) (by decide) | decide) ?_
    rw [nI_clamp (show (33 + (2 * a)) < 2 ^ 31 by omega)]
    refine zk_T.adv 1 (f' := (114, [(0, .ref 69), (1, .ref 77), (2, .int (nI d)), (3, .int (nI a)), (4, .int (-1))], [.int ((v 80 d) + (v 71 (33 + (2 * a)))), .int (nI d), .ref 81])) (h' := zH (zb v 76 (upd (v 76) 14 ((v 76 14) ||| ((1 : Int32) <<< ((nI a) &&& 31))))) w t) rfl ?_
    refine zk_T.ob (f' := (115, [(0, .ref 69), (1, .ref 77), (2, .int (nI d)), (3, .int (nI a)), (4, .int (-1))], [])) (h' := zH (zb (zb v 76 (upd (v 76) 14 ((v 76 14) ||| ((1 : Int32) <<< ((nI a) &&& 31))))) 80 (upd (v 80) (nI d).toNatClampNeg ((v 80 d) + (v 71 (33 + (2 * a)))))) w t) rfl (by first | exact zk_inN (by omega) (by decide) | decide) ?_
    rw [nI_clamp (show d < 2 ^ 31 by omega)]
    refine zk_T.adv 4 (f' := (121, [(0, .ref 69), (1, .ref 77), (2, .int (nI d)), (3, .int (nI a)), (4, .int (-1))], [.int (nI d), .int (nI a), .ref 82])) (h' := zH (zb (zb v 76 (upd (v 76) 14 ((v 76 14) ||| ((1 : Int32) <<< ((nI a) &&& 31))))) 80 (upd (v 80) d ((v 80 d) + (v 71 (33 + (2 * a)))))) w t) rfl ?_
    refine zk_T.ob (f' := (122, [(0, .ref 69), (1, .ref 77), (2, .int (nI d)), (3, .int (nI a)), (4, .int (-1))], [])) (h' := zH (zb (zb (zb v 76 (upd (v 76) 14 ((v 76 14) ||| ((1 : Int32) <<< ((nI a) &&& 31))))) 80 (upd (v 80) d ((v 80 d) + (v 71 (33 + (2 * a)))))) 81 (upd (v 81) (nI a).toNatClampNeg (nI d))) w t) rfl (by first | exact zk_inN (by omega) (by decide) | decide) ?_
    rw [nI_clamp (show a < 2 ^ 31 by omega)]
    exact zk_T.rt rfl rfl (by simp only [zr_mstB, if_neg c2] <;> rfl)
def zr_mstI (r row slp : Nat → Int32) (ou : Int32) (lt lw oo : Nat → Int32) (d a e : Nat) : (Nat → Int32) × Int32 × (Nat → Int32) × (Nat → Int32) × (Nat → Int32) := if (zr_mhasBit (zr_moutOf (r) (row) (slp) e (row 15)) (nI d)) = 0 then if (zr_mhasBit (r ((33 + (2 * a)) + 1)) (nI d)) = 0 then (row, ou, lt, lw, oo) else (upd (row) 14 ((row 14) ||| ((1 : Int32) <<< ((nI a) &&& 31))), ou, upd (lt) d ((lt d) + (r (33 + (2 * a)))), upd (lw) a (nI d), oo) else (upd (row) e ((row e) - 1), ou + 1, lt, lw, upd (oo) e ((oo e) + 1))
/-- BasketKeepModel.strikeOn -/
theorem zs_mstIT (d a e : Nat) (hd : d < 8) (ha : a < 4) (he : e < 5) (hI : v 76 (10 + a) = nI (e + 1)) : zk_Cr zk_mt zk_ex Ls xs 209 [.ref 69, .ref 77, .int (nI d), .int (nI a)] (zH v w t) (none, zH (zb (zb (zb (zb (zb v 68 (upd (v 68) 26 ((zr_mstI (v 71) (v 76) (v 79) (v 68 26) (v 80) (v 81) (v 82) d a e).2.1))) 76 ((zr_mstI (v 71) (v 76) (v 79) (v 68 26) (v 80) (v 81) (v 82) d a e).1)) 80 ((zr_mstI (v 71) (v 76) (v 79) (v 68 26) (v 80) (v 81) (v 82) d a e).2.2.1)) 81 ((zr_mstI (v 71) (v 76) (v 79) (v 68 26) (v 80) (v 81) (v 82) d a e).2.2.2.1)) 82 ((zr_mstI (v 71) (v 76) (v 79) (v 68 26) (v 80) (v 81) (v 82) d a e).2.2.2.2)) w t) := by
  refine zk_Cr.of (K := zm_209) rfl rfl rfl ?_
  show zk_T zk_mt zk_ex Ls xs zm_209 (0, [(0, .ref 69), (1, .ref 77), (2, .int (nI d)), (3, .int (nI a))], []) (zH v w t) _
  refine zk_T.adv 4 (f' := (5, [(0, .ref 69), (1, .ref 77), (2, .int (nI d)), (3, .int (nI a))], [.int (10 + (nI a)), .ref 77])) (h' := zH v w t) rfl ?_
  rw [show 10 + (nI a) = nI (10 + a) from nI_add 10 a]
  refine zk_T.ob (f' := (6, [(0, .ref 69), (1, .ref 77), (2, .int (nI d)), (3, .int (nI a))], [.int (v 76 (nI (10 + a)).toNatClampNeg)])) (h' := zH v w t) rfl (by first | exact zk_inN (by omega) (by decide) | decide) ?_
  rw [nI_clamp (show (10 + a) < 2 ^ 31 by omega)]
  rw [hI]
  refine zk_T.adv 2 (f' := (8, [(0, .ref 69), (1, .ref 77), (2, .int (nI d)), (3, .int (nI a))], [.int ((nI (e + 1)) - 1)])) (h' := zH v w t) rfl ?_
  rw [show (nI (e + 1)) - 1 = nI e from nI_pred e]
  refine zk_T.adv 2 (f' := (12, [(0, .ref 69), (1, .ref 77), (2, .int (nI d)), (3, .int (nI a)), (4, .int (nI e))], [.int (nI e)])) (h' := zH v w t) rfl ?_
  refine zk_T.br (f1 := (65, [(0, .ref 69), (1, .ref 77), (2, .int (nI d)), (3, .int (nI a)), (4, .int (nI e))], [])) (f2 := (15, [(0, .ref 69), (1, .ref 77), (2, .int (nI d)), (3, .int (nI a)), (4, .int (nI e))], [])) rfl (fun c1 => absurd (of_decide_eq_true c1) (nI_pos (by omega))) (fun c1 => ?_)
  refine zk_T.adv 5 (f' := (22, [(0, .ref 69), (1, .ref 77), (2, .int (nI d)), (3, .int (nI a)), (4, .int (nI e))], [.int 15, .ref 77, .int (nI e), .ref 77, .ref 69])) (h' := zH v w t) rfl ?_
  refine zk_T.ob (f' := (23, [(0, .ref 69), (1, .ref 77), (2, .int (nI d)), (3, .int (nI a)), (4, .int (nI e))], [.int (v 76 (15 : Int32).toNatClampNeg), .int (nI e), .ref 77, .ref 69])) (h' := zH v w t) rfl rfl ?_
  show zk_T zk_mt zk_ex Ls xs zm_209 (23, [(0, .ref 69), (1, .ref 77), (2, .int (nI d)), (3, .int (nI a)), (4, .int (nI e))], [.int (v 76 15), .int (nI e), .ref 77, .ref 69]) (zH v w t) _
  refine zk_T.cl (v := some (.int (zr_moutOf (v 71) (v 76) (v 79) e (v 76 15)))) (h' := zH v w t) rfl (zs_moutOfT (v := v) e (by omega) (v 76 15)) ?_
  show zk_T zk_mt zk_ex Ls xs zm_209 (26, [(0, .ref 69), (1, .ref 77), (2, .int (nI d)), (3, .int (nI a)), (4, .int (nI e))], [.int (zr_moutOf (v 71) (v 76) (v 79) e (v 76 15))]) (zH v w t) _
  refine zk_T.adv 1 (f' := (27, [(0, .ref 69), (1, .ref 77), (2, .int (nI d)), (3, .int (nI a)), (4, .int (nI e))], [.int (nI d), .int (zr_moutOf (v 71) (v 76) (v 79) e (v 76 15))])) (h' := zH v w t) rfl ?_
  refine zk_T.cl (v := some (.int (zr_mhasBit (zr_moutOf (v 71) (v 76) (v 79) e (v 76 15)) (nI d)))) (h' := zH v w t) rfl (zs_mhasBit (zr_moutOf (v 71) (v 76) (v 79) e (v 76 15)) (nI d)) ?_
  show zk_T zk_mt zk_ex Ls xs zm_209 (30, [(0, .ref 69), (1, .ref 77), (2, .int (nI d)), (3, .int (nI a)), (4, .int (nI e))], [.int (zr_mhasBit (zr_moutOf (v 71) (v 76) (v 79) e (v 76 15)) (nI d))]) (zH v w t) _
  refine zk_T.br (f1 := (65, [(0, .ref 69), (1, .ref 77), (2, .int (nI d)), (3, .int (nI a)), (4, .int (nI e))], [])) (f2 := (33, [(0, .ref 69), (1, .ref 77), (2, .int (nI d)), (3, .int (nI a)), (4, .int (nI e))], [])) rfl (fun c2 => ?_) (fun c2 => ?_)
  · have c2 : (zr_mhasBit (zr_moutOf (v 71) (v 76) (v 79) e (v 76 15)) (nI d)) = 0 := of_decide_eq_true c2
    refine zk_T.adv 6 (f' := (74, [(0, .ref 69), (1, .ref 77), (2, .int (nI d)), (3, .int (nI a)), (4, .int (nI e))], [.int (2 * (nI a)), .int 33, .ref 72])) (h' := zH v w t) rfl ?_
    rw [show 2 * (nI a) = nI (2 * a) from pk_mul 2 a]
    refine zk_T.adv 1 (f' := (75, [(0, .ref 69), (1, .ref 77), (2, .int (nI d)), (3, .int (nI a)), (4, .int (nI e))], [.int (33 + (nI (2 * a))), .ref 72])) (h' := zH v w t) rfl ?_
    rw [show 33 + (nI (2 * a)) = nI (33 + (2 * a)) from nI_add 33 (2 * a)]
    refine zk_T.adv 2 (f' := (77, [(0, .ref 69), (1, .ref 77), (2, .int (nI d)), (3, .int (nI a)), (4, .int (nI e))], [.int ((nI (33 + (2 * a))) + 1), .ref 72])) (h' := zH v w t) rfl ?_
    rw [show (nI (33 + (2 * a))) + 1 = nI ((33 + (2 * a)) + 1) from nI_add (33 + (2 * a)) 1]
    refine zk_T.ob (f' := (78, [(0, .ref 69), (1, .ref 77), (2, .int (nI d)), (3, .int (nI a)), (4, .int (nI e))], [.int (v 71 (nI ((33 + (2 * a)) + 1)).toNatClampNeg)])) (h' := zH v w t) rfl (by first | exact zk_inN (by omega) (by decide) | decide) ?_
    rw [nI_clamp (show ((33 + (2 * a)) + 1) < 2 ^ 31 by omega)]
    refine zk_T.adv 1 (f' := (79, [(0, .ref 69), (1, .ref 77), (2, .int (nI d)), (3, .int (nI a)), (4, .int (nI e))], [.int (nI d), .int (v 71 ((33 + (2 * a)) + 1))])) (h' := zH v w t) rfl ?_
    refine zk_T.cl (v := some (.int (zr_mhasBit (v 71 ((33 + (2 * a)) + 1)) (nI d)))) (h' := zH v w t) rfl (zs_mhasBit (v 71 ((33 + (2 * a)) + 1)) (nI d)) ?_
    show zk_T zk_mt zk_ex Ls xs zm_209 (82, [(0, .ref 69), (1, .ref 77), (2, .int (nI d)), (3, .int (nI a)), (4, .int (nI e))], [.int (zr_mhasBit (v 71 ((33 + (2 * a)) + 1)) (nI d))]) (zH v w t) _
    refine zk_T.br (f1 := (122, [(0, .ref 69), (1, .ref 77), (2, .int (nI d)), (3, .int (nI a)), (4, .int (nI e))], [])) (f2 := (85, [(0, .ref 69), (1, .ref 77), (2, .int (nI d)), (3, .int (nI a)), (4, .int (nI e))], [])) rfl (fun c3 => ?_) (fun c3 => ?_)
    · have c3 : (zr_mhasBit (v 71 ((33 + (2 * a)) + 1)) (nI d)) = 0 := of_decide_eq_true c3
      exact zk_T.rt rfl rfl (by simp only [zr_mstI, if_pos c2, if_pos c3] <;> rfl)
    · have c3 : ¬ ((zr_mhasBit (v 71 ((33 + (2 * a)) + 1)) (nI d)) = 0) := of_decide_eq_false c3
      refine zk_T.adv 3 (f' := (89, [(0, .ref 69), (1, .ref 77), (2, .int (nI d)), (3, .int (nI a)), (4, .int (nI e))], [.int 14, .ref 77, .int 14, .ref 77])) (h' := zH v w t) rfl ?_
      refine zk_T.ob (f' := (90, [(0, .ref 69), (1, .ref 77), (2, .int (nI d)), (3, .int (nI a)), (4, .int (nI e))], [.int (v 76 (14 : Int32).toNatClampNeg), .int 14, .ref 77])) (h' := zH v w t) rfl rfl ?_
      show zk_T zk_mt zk_ex Ls xs zm_209 (90, [(0, .ref 69), (1, .ref 77), (2, .int (nI d)), (3, .int (nI a)), (4, .int (nI e))], [.int (v 76 14), .int 14, .ref 77]) (zH v w t) _
      refine zk_T.adv 4 (f' := (94, [(0, .ref 69), (1, .ref 77), (2, .int (nI d)), (3, .int (nI a)), (4, .int (nI e))], [.int ((v 76 14) ||| ((1 : Int32) <<< ((nI a) &&& 31))), .int 14, .ref 77])) (h' := zH v w t) rfl ?_
      refine zk_T.ob (f' := (95, [(0, .ref 69), (1, .ref 77), (2, .int (nI d)), (3, .int (nI a)), (4, .int (nI e))], [])) (h' := zH (zb v 76 (upd (v 76) (14 : Int32).toNatClampNeg ((v 76 14) ||| ((1 : Int32) <<< ((nI a) &&& 31))))) w t) rfl rfl ?_
      show zk_T zk_mt zk_ex Ls xs zm_209 (95, [(0, .ref 69), (1, .ref 77), (2, .int (nI d)), (3, .int (nI a)), (4, .int (nI e))], []) (zH (zb v 76 (upd (v 76) 14 ((v 76 14) ||| ((1 : Int32) <<< ((nI a) &&& 31))))) w t) _
      refine zk_T.adv 4 (f' := (101, [(0, .ref 69), (1, .ref 77), (2, .int (nI d)), (3, .int (nI a)), (4, .int (nI e))], [.int (nI d), .ref 81, .int (nI d), .ref 81])) (h' := zH (zb v 76 (upd (v 76) 14 ((v 76 14) ||| ((1 : Int32) <<< ((nI a) &&& 31))))) w t) rfl ?_
      refine zk_T.ob (f' := (102, [(0, .ref 69), (1, .ref 77), (2, .int (nI d)), (3, .int (nI a)), (4, .int (nI e))], [.int (v 80 (nI d).toNatClampNeg), .int (nI d), .ref 81])) (h' := zH (zb v 76 (upd (v 76) 14 ((v 76 14) ||| ((1 : Int32) <<< ((nI a) &&& 31))))) w t) rfl (by first | exact zk_inN (by omega) (by decide) | decide) ?_
      rw [nI_clamp (show d < 2 ^ 31 by omega)]
      refine zk_T.adv 6 (f' := (111, [(0, .ref 69), (1, .ref 77), (2, .int (nI d)), (3, .int (nI a)), (4, .int (nI e))], [.int (2 * (nI a)), .int 33, .ref 72, .int (v 80 d), .int (nI d), .ref 81])) (h' := zH (zb v 76 (upd (v 76) 14 ((v 76 14) ||| ((1 : Int32) <<< ((nI a) &&& 31))))) w t) rfl ?_
      rw [show 2 * (nI a) = nI (2 * a) from pk_mul 2 a]
      refine zk_T.adv 1 (f' := (112, [(0, .ref 69), (1, .ref 77), (2, .int (nI d)), (3, .int (nI a)), (4, .int (nI e))], [.int (33 + (nI (2 * a))), .ref 72, .int (v 80 d), .int (nI d), .ref 81])) (h' := zH (zb v 76 (upd (v 76) 14 ((v 76 14) ||| ((1 : Int32) <<< ((nI a) &&& 31))))) w t) rfl ?_
      rw [show 33 + (nI (2 * a)) = nI (33 + (2 * a)) from nI_add 33 (2 * a)]
      refine zk_T.ob (f' := (113, [(0, .ref 69), (1, .ref 77), (2, .int (nI d)), (3, .int (nI a)), (4, .int (nI e))], [.int (v 71 (nI (33 + (2 * a))).toNatClampNeg), .int (v 80 d), .int (nI d), .ref 81])) (h' := zH (zb v 76 (upd (v 76) 14 ((v 76 14) ||| ((1 : Int32) <<< ((nI a) &&& 31))))) w t) rfl (by first | exact zk_inN (by omega) (by decide) | decide) ?_
      rw [nI_clamp (show (33 + (2 * a)) < 2 ^ 31 by omega)]
      refine zk_T.adv 1 (f' := (114, [(0, .ref 69), (1, .ref 77), (2, .int (nI d)), (3, .int (nI a)), (4, .int (nI e))], [.int ((v 80 d) + (v 71 (33 + (2 * a)))), .int (nI d), .ref 81])) (h' := zH (zb v 76 (upd (v 76) 14 ((v 76 14) ||| ((1 : Int32) <<< ((nI a) &&& 31))))) w t) rfl ?_
      refine zk_T.ob (f' := (115, [(0, .ref 69), (1, .ref 77), (2, .int (nI d)), (3, .int (nI a)), (4, .int (nI e))], [])) (h' := zH (zb (zb v 76 (upd (v 76) 14 ((v 76 14) ||| ((1 : Int32) <<< ((nI a) &&& 31))))) 80 (upd (v 80) (nI d).toNatClampNeg ((v 80 d) + (v 71 (33 + (2 * a)))))) w t) rfl (by first | exact zk_inN (by omega) (by decide) | decide) ?_
      rw [nI_clamp (show d < 2 ^ 31 by omega)]
      refine zk_T.adv 4 (f' := (121, [(0, .ref 69), (1, .ref 77), (2, .int (nI d)), (3, .int (nI a)), (4, .int (nI e))], [.int (nI d), .int (nI a), .ref 82])) (h' := zH (zb (zb v 76 (upd (v 76) 14 ((v 76 14) ||| ((1 : Int32) <<< ((nI a) &&& 31))))) 80 (upd (v 80) d ((v 80 d) + (v 71 (33 + (2 * a)))))) w t) rfl ?_
      refine zk_T.ob (f' := (122, [(0, .ref 69), (1, .ref 77), (2, .int (nI d)), (3, .int (nI a)), (4, .int (nI e))], [])) (h' := zH (zb (zb (zb v 76 (upd (v 76) 14 ((v 76 14) ||| ((1 : Int32) <<< ((nI a) &&& 31))))) 80 (upd (v 80) d ((v 80 d) + (v 71 (33 + (2 * a)))))) 81 (upd (v 81) (nI a).toNatClampNeg (nI d))) w t) rfl (by first | exact zk_inN (by omega) (by decide) | decide) ?_
      rw [nI_clamp (show a < 2 ^ 31 by omega)]
      exact zk_T.rt rfl rfl (by simp only [zr_mstI, if_pos c2, if_neg c3] <;> rfl)
  · have c2 : ¬ ((zr_mhasBit (zr_moutOf (v 71) (v 76) (v 79) e (v 76 15)) (nI d)) = 0) := of_decide_eq_false c2
    refine zk_T.adv 3 (f' := (37, [(0, .ref 69), (1, .ref 77), (2, .int (nI d)), (3, .int (nI a)), (4, .int (nI e))], [.int (nI e), .ref 77, .int (nI e), .ref 77])) (h' := zH v w t) rfl ?_
    refine zk_T.ob (f' := (38, [(0, .ref 69), (1, .ref 77), (2, .int (nI d)), (3, .int (nI a)), (4, .int (nI e))], [.int (v 76 (nI e).toNatClampNeg), .int (nI e), .ref 77])) (h' := zH v w t) rfl (by first | exact zk_inN (by omega) (by decide) | decide) ?_
    rw [nI_clamp (show e < 2 ^ 31 by omega)]
    refine zk_T.adv 2 (f' := (40, [(0, .ref 69), (1, .ref 77), (2, .int (nI d)), (3, .int (nI a)), (4, .int (nI e))], [.int ((v 76 e) - 1), .int (nI e), .ref 77])) (h' := zH v w t) rfl ?_
    refine zk_T.ob (f' := (41, [(0, .ref 69), (1, .ref 77), (2, .int (nI d)), (3, .int (nI a)), (4, .int (nI e))], [])) (h' := zH (zb v 76 (upd (v 76) (nI e).toNatClampNeg ((v 76 e) - 1))) w t) rfl (by first | exact zk_inN (by omega) (by decide) | decide) ?_
    rw [nI_clamp (show e < 2 ^ 31 by omega)]
    refine zk_T.adv 10 (f' := (58, [(0, .ref 69), (1, .ref 77), (2, .int (nI d)), (3, .int (nI a)), (4, .int (nI e))], [.int (nI e), .ref 83, .int (nI e), .ref 83])) (h' := zH (zb (zb v 68 (upd (v 68) 26 ((v 68 26) + 1))) 76 (upd (v 76) e ((v 76 e) - 1))) w t) rfl ?_
    refine zk_T.ob (f' := (59, [(0, .ref 69), (1, .ref 77), (2, .int (nI d)), (3, .int (nI a)), (4, .int (nI e))], [.int (v 82 (nI e).toNatClampNeg), .int (nI e), .ref 83])) (h' := zH (zb (zb v 68 (upd (v 68) 26 ((v 68 26) + 1))) 76 (upd (v 76) e ((v 76 e) - 1))) w t) rfl (by first | exact zk_inN (by omega) (by decide) | decide) ?_
    rw [nI_clamp (show e < 2 ^ 31 by omega)]
    refine zk_T.adv 2 (f' := (61, [(0, .ref 69), (1, .ref 77), (2, .int (nI d)), (3, .int (nI a)), (4, .int (nI e))], [.int ((v 82 e) + 1), .int (nI e), .ref 83])) (h' := zH (zb (zb v 68 (upd (v 68) 26 ((v 68 26) + 1))) 76 (upd (v 76) e ((v 76 e) - 1))) w t) rfl ?_
    refine zk_T.ob (f' := (62, [(0, .ref 69), (1, .ref 77), (2, .int (nI d)), (3, .int (nI a)), (4, .int (nI e))], [])) (h' := zH (zb (zb (zb v 68 (upd (v 68) 26 ((v 68 26) + 1))) 76 (upd (v 76) e ((v 76 e) - 1))) 82 (upd (v 82) (nI e).toNatClampNeg ((v 82 e) + 1))) w t) rfl (by first | exact zk_inN (by omega) (by decide) | decide) ?_
    rw [nI_clamp (show e < 2 ^ 31 by omega)]
    refine zk_T.adv 1 (f' := (122, [(0, .ref 69), (1, .ref 77), (2, .int (nI d)), (3, .int (nI a)), (4, .int (nI e))], [])) (h' := zH (zb (zb (zb v 68 (upd (v 68) 26 ((v 68 26) + 1))) 76 (upd (v 76) e ((v 76 e) - 1))) 82 (upd (v 82) e ((v 82 e) + 1))) w t) rfl ?_
    exact zk_T.rt rfl rfl (by simp only [zr_mstI, if_neg c2] <;> rfl)
theorem zr_mstB_lie {Gn : Nat} {r row slp : Nat → Int32} {ou : Int32} {lt lw oo : Nat → Int32} {d a : Nat} (h : zk_lie Gn row) (h4 : Gn ≤ 4) : zk_lie Gn (zr_mstB r row slp ou lt lw oo d a).1 := by
  unfold zr_mstB
  repeat' split
  all_goals first | exact h | exact zk_lieU h h4 (by omega) _
theorem zr_mstI_lie {Gn : Nat} {r row slp : Nat → Int32} {ou : Int32} {lt lw oo : Nat → Int32} {d a e : Nat} (h : zk_lie Gn row) (h4 : Gn ≤ 4) (he : e < 5) : zk_lie Gn (zr_mstI r row slp ou lt lw oo d a e).1 := by
  unfold zr_mstI
  repeat' split
  all_goals first | exact h | exact zk_lieU h h4 (by omega) _
def zl_mygG (r slp : Nat → Int32) (d : Nat) (j : Nat) (s : (Nat → Int32) × Int32 × (Nat → Int32) × (Nat → Int32) × (Nat → Int32)) : (Nat → Int32) × Int32 × (Nat → Int32) × (Nat → Int32) × (Nat → Int32) := match s with
  | (row, ou, lt, lw, oo) => if (zr_mhasBit (row 14) (nI j)) = 0 then if (row (10 + j)) = 0 then ((zr_mstB (r) row (slp) ou lt lw oo d j).1, (zr_mstB (r) row (slp) ou lt lw oo d j).2.1, (zr_mstB (r) row (slp) ou lt lw oo d j).2.2.1, (zr_mstB (r) row (slp) ou lt lw oo d j).2.2.2.1, (zr_mstB (r) row (slp) ou lt lw oo d j).2.2.2.2) else ((zr_mstI (r) row (slp) ou lt lw oo d j ((row (10 + j)).toNatClampNeg - 1)).1, (zr_mstI (r) row (slp) ou lt lw oo d j ((row (10 + j)).toNatClampNeg - 1)).2.1, (zr_mstI (r) row (slp) ou lt lw oo d j ((row (10 + j)).toNatClampNeg - 1)).2.2.1, (zr_mstI (r) row (slp) ou lt lw oo d j ((row (10 + j)).toNatClampNeg - 1)).2.2.2.1, (zr_mstI (r) row (slp) ou lt lw oo d j ((row (10 + j)).toNatClampNeg - 1)).2.2.2.2) else (row, ou, lt, lw, oo)
theorem zl_mygT (Gn : Nat) (hG : v 71 3 = nI Gn) (h4 : Gn ≤ 4) (sk : Int32) (d : Nat) (hd8 : d < 8) : ∀ (s : (Nat → Int32) × Int32 × (Nat → Int32) × (Nat → Int32) × (Nat → Int32)) (q : Option Value × zk_H), zk_lie Gn s.1 → zk_T zk_mt zk_ex Ls xs zm_217 ((fun (s : (Nat → Int32) × Int32 × (Nat → Int32) × (Nat → Int32) × (Nat → Int32)) => ((80, [(0, .ref 69), (1, .ref 77), (2, .int sk), (3, .int (nI d)), (4, .int (nI (0 + Gn)))], []) : zk_F)) (zf (zl_mygG (v 71) (v 79) d) Gn 0 s)) ((fun (s : (Nat → Int32) × Int32 × (Nat → Int32) × (Nat → Int32) × (Nat → Int32)) => zH (zb (zb (zb (zb (zb v 68 (upd (v 68) 26 s.2.1)) 76 s.1) 80 s.2.2.1) 81 s.2.2.2.1) 82 s.2.2.2.2) w t) (zf (zl_mygG (v 71) (v 79) d) Gn 0 s)) q → zk_T zk_mt zk_ex Ls xs zm_217 (43, [(0, .ref 69), (1, .ref 77), (2, .int sk), (3, .int (nI d)), (4, .int (nI 0))], []) (zH (zb (zb (zb (zb (zb v 68 (upd (v 68) 26 s.2.1)) 76 s.1) 80 s.2.2.1) 81 s.2.2.2.1) 82 s.2.2.2.2) w t) q := by
  intro s q hP0 hk
  refine zk_forK (M := zm_217) (fun j (s : (Nat → Int32) × Int32 × (Nat → Int32) × (Nat → Int32) × (Nat → Int32)) => (43, [(0, .ref 69), (1, .ref 77), (2, .int sk), (3, .int (nI d)), (4, .int (nI j))], [])) (fun _ (s : (Nat → Int32) × Int32 × (Nat → Int32) × (Nat → Int32) × (Nat → Int32)) => zH (zb (zb (zb (zb (zb v 68 (upd (v 68) 26 s.2.1)) 76 s.1) 80 s.2.2.1) 81 s.2.2.2.1) 82 s.2.2.2.2) w t) (zl_mygG (v 71) (v 79) d) (fun j (s : (Nat → Int32) × Int32 × (Nat → Int32) × (Nat → Int32) × (Nat → Int32)) => zk_lie Gn s.1) (fun (s : (Nat → Int32) × Int32 × (Nat → Int32) × (Nat → Int32) × (Nat → Int32)) => (80, [(0, .ref 69), (1, .ref 77), (2, .int sk), (3, .int (nI d)), (4, .int (nI (0 + Gn)))], [])) (fun (s : (Nat → Int32) × Int32 × (Nat → Int32) × (Nat → Int32) × (Nat → Int32)) => zH (zb (zb (zb (zb (zb v 68 (upd (v 68) 26 s.2.1)) 76 s.1) 80 s.2.2.1) 81 s.2.2.2.1) 82 s.2.2.2.2) w t) (Gn) 0 s (fun j s hj1 hj2 hp => by
    obtain ⟨row, ou, lt, lw, oo⟩ := s
    have hp : zk_lie Gn row := hp
    show zk_lie Gn (zl_mygG (v 71) (v 79) d j (row, ou, lt, lw, oo)).1
    unfold zl_mygG
    dsimp only
    split
    · split
      · exact zr_mstB_lie (slp := v 79) hp h4
      · rename_i hz
        rcases hp j (by omega) with hB | ⟨e, he, hI⟩
        · exact absurd hB hz
        · rw [hI, nI_clamp (show e + 1 < 2 ^ 31 by omega)]
          exact zr_mstI_lie hp h4 (by omega)
    · exact hp) (fun j s hj1 hj2 hp q hk => ?_) (fun s hp q hk => ?_) ?_ q hk
  · obtain ⟨row, ou, lt, lw, oo⟩ := s
    show zk_T zk_mt zk_ex Ls xs zm_217 (43, [(0, .ref 69), (1, .ref 77), (2, .int sk), (3, .int (nI d)), (4, .int (nI j))], []) (zH (zb (zb (zb (zb (zb v 68 (upd (v 68) 26 ou)) 76 row) 80 lt) 81 lw) 82 oo) w t) q
    have hp : zk_lie Gn row := hp
    refine zk_T.adv 4 (f' := (50, [(0, .ref 69), (1, .ref 77), (2, .int sk), (3, .int (nI d)), (4, .int (nI j))], [.int 3, .ref 72, .int (nI j)])) (h' := zH (zb (zb (zb (zb (zb v 68 (upd (v 68) 26 ou)) 76 row) 80 lt) 81 lw) 82 oo) w t) rfl ?_
    refine zk_T.ob (f' := (51, [(0, .ref 69), (1, .ref 77), (2, .int sk), (3, .int (nI d)), (4, .int (nI j))], [.int (v 71 (3 : Int32).toNatClampNeg), .int (nI j)])) (h' := zH (zb (zb (zb (zb (zb v 68 (upd (v 68) 26 ou)) 76 row) 80 lt) 81 lw) 82 oo) w t) rfl rfl ?_
    show zk_T zk_mt zk_ex Ls xs zm_217 (51, [(0, .ref 69), (1, .ref 77), (2, .int sk), (3, .int (nI d)), (4, .int (nI j))], [.int (v 71 3), .int (nI j)]) (zH (zb (zb (zb (zb (zb v 68 (upd (v 68) 26 ou)) 76 row) 80 lt) 81 lw) 82 oo) w t) _
    refine zk_T.br (f1 := (80, [(0, .ref 69), (1, .ref 77), (2, .int sk), (3, .int (nI d)), (4, .int (nI j))], [])) (f2 := (54, [(0, .ref 69), (1, .ref 77), (2, .int sk), (3, .int (nI d)), (4, .int (nI j))], [])) rfl (fun c1 => absurd (of_decide_eq_true c1) (by rw [show _ = nI Gn from hG]; exact nI_ge (show j < Gn by omega) (by omega))) (fun c1 => ?_)
    refine zk_T.adv 2 (f' := (57, [(0, .ref 69), (1, .ref 77), (2, .int sk), (3, .int (nI d)), (4, .int (nI j))], [.int 14, .ref 77])) (h' := zH (zb (zb (zb (zb (zb v 68 (upd (v 68) 26 ou)) 76 row) 80 lt) 81 lw) 82 oo) w t) rfl ?_
    refine zk_T.ob (f' := (58, [(0, .ref 69), (1, .ref 77), (2, .int sk), (3, .int (nI d)), (4, .int (nI j))], [.int (row (14 : Int32).toNatClampNeg)])) (h' := zH (zb (zb (zb (zb (zb v 68 (upd (v 68) 26 ou)) 76 row) 80 lt) 81 lw) 82 oo) w t) rfl rfl ?_
    show zk_T zk_mt zk_ex Ls xs zm_217 (58, [(0, .ref 69), (1, .ref 77), (2, .int sk), (3, .int (nI d)), (4, .int (nI j))], [.int (row 14)]) (zH (zb (zb (zb (zb (zb v 68 (upd (v 68) 26 ou)) 76 row) 80 lt) 81 lw) 82 oo) w t) _
    refine zk_T.adv 1 (f' := (60, [(0, .ref 69), (1, .ref 77), (2, .int sk), (3, .int (nI d)), (4, .int (nI j))], [.int (nI j), .int (row 14)])) (h' := zH (zb (zb (zb (zb (zb v 68 (upd (v 68) 26 ou)) 76 row) 80 lt) 81 lw) 82 oo) w t) rfl ?_
    refine zk_T.cl (v := some (.int (zr_mhasBit (row 14) (nI j)))) (h' := zH (zb (zb (zb (zb (zb v 68 (upd (v 68) 26 ou)) 76 row) 80 lt) 81 lw) 82 oo) w t) rfl (zs_mhasBit (row 14) (nI j)) ?_
    show zk_T zk_mt zk_ex Ls xs zm_217 (63, [(0, .ref 69), (1, .ref 77), (2, .int sk), (3, .int (nI d)), (4, .int (nI j))], [.int (zr_mhasBit (row 14) (nI j))]) (zH (zb (zb (zb (zb (zb v 68 (upd (v 68) 26 ou)) 76 row) 80 lt) 81 lw) 82 oo) w t) _
    refine zk_T.br (f1 := (66, [(0, .ref 69), (1, .ref 77), (2, .int sk), (3, .int (nI d)), (4, .int (nI j))], [])) (f2 := (74, [(0, .ref 69), (1, .ref 77), (2, .int sk), (3, .int (nI d)), (4, .int (nI j))], [])) rfl (fun c2 => ?_) (fun c2 => ?_)
    · have c2 : (zr_mhasBit (row 14) (nI j)) = 0 := of_decide_eq_true c2
      refine zk_T.adv 4 (f' := (71, [(0, .ref 69), (1, .ref 77), (2, .int sk), (3, .int (nI d)), (4, .int (nI j))], [.int (nI j), .int (nI d), .ref 77, .ref 69])) (h' := zH (zb (zb (zb (zb (zb v 68 (upd (v 68) 26 ou)) 76 row) 80 lt) 81 lw) 82 oo) w t) rfl ?_
      rcases hp j (show j < Gn by omega) with hB | ⟨e, he, hI⟩
      · refine zk_T.cl (v := none) (h' := zH (zb (zb (zb (zb (zb v 68 (upd (v 68) 26 ((zr_mstB (v 71) row (v 79) ou lt lw oo d j).2.1))) 76 ((zr_mstB (v 71) row (v 79) ou lt lw oo d j).1)) 80 ((zr_mstB (v 71) row (v 79) ou lt lw oo d j).2.2.1)) 81 ((zr_mstB (v 71) row (v 79) ou lt lw oo d j).2.2.2.1)) 82 ((zr_mstB (v 71) row (v 79) ou lt lw oo d j).2.2.2.2)) w t) rfl (zs_mstBT (v := (zb (zb (zb (zb (zb v 68 (upd (v 68) 26 ou)) 76 row) 80 lt) 81 lw) 82 oo)) d j hd8 (by omega) hB) ?_
        show zk_T zk_mt zk_ex Ls xs zm_217 (74, [(0, .ref 69), (1, .ref 77), (2, .int sk), (3, .int (nI d)), (4, .int (nI j))], []) (zH (zb (zb (zb (zb (zb v 68 (upd (v 68) 26 ((zr_mstB (v 71) row (v 79) ou lt lw oo d j).2.1))) 76 ((zr_mstB (v 71) row (v 79) ou lt lw oo d j).1)) 80 ((zr_mstB (v 71) row (v 79) ou lt lw oo d j).2.2.1)) 81 ((zr_mstB (v 71) row (v 79) ou lt lw oo d j).2.2.2.1)) 82 ((zr_mstB (v 71) row (v 79) ou lt lw oo d j).2.2.2.2)) w t) _
        refine zk_T.adv 2 (f' := (43, [(0, .ref 69), (1, .ref 77), (2, .int sk), (3, .int (nI d)), (4, .int ((nI j) + 1))], [])) (h' := zH (zb (zb (zb (zb (zb v 68 (upd (v 68) 26 ((zr_mstB (v 71) row (v 79) ou lt lw oo d j).2.1))) 76 ((zr_mstB (v 71) row (v 79) ou lt lw oo d j).1)) 80 ((zr_mstB (v 71) row (v 79) ou lt lw oo d j).2.2.1)) 81 ((zr_mstB (v 71) row (v 79) ou lt lw oo d j).2.2.2.1)) 82 ((zr_mstB (v 71) row (v 79) ou lt lw oo d j).2.2.2.2)) w t) rfl ?_
        rw [nI_1]
        simp only [zl_mygG, if_pos c2, if_pos hB] at hk
        exact hk
      · refine zk_T.cl (v := none) (h' := zH (zb (zb (zb (zb (zb v 68 (upd (v 68) 26 ((zr_mstI (v 71) row (v 79) ou lt lw oo d j e).2.1))) 76 ((zr_mstI (v 71) row (v 79) ou lt lw oo d j e).1)) 80 ((zr_mstI (v 71) row (v 79) ou lt lw oo d j e).2.2.1)) 81 ((zr_mstI (v 71) row (v 79) ou lt lw oo d j e).2.2.2.1)) 82 ((zr_mstI (v 71) row (v 79) ou lt lw oo d j e).2.2.2.2)) w t) rfl (zs_mstIT (v := (zb (zb (zb (zb (zb v 68 (upd (v 68) 26 ou)) 76 row) 80 lt) 81 lw) 82 oo)) d j e hd8 (by omega) he hI) ?_
        show zk_T zk_mt zk_ex Ls xs zm_217 (74, [(0, .ref 69), (1, .ref 77), (2, .int sk), (3, .int (nI d)), (4, .int (nI j))], []) (zH (zb (zb (zb (zb (zb v 68 (upd (v 68) 26 ((zr_mstI (v 71) row (v 79) ou lt lw oo d j e).2.1))) 76 ((zr_mstI (v 71) row (v 79) ou lt lw oo d j e).1)) 80 ((zr_mstI (v 71) row (v 79) ou lt lw oo d j e).2.2.1)) 81 ((zr_mstI (v 71) row (v 79) ou lt lw oo d j e).2.2.2.1)) 82 ((zr_mstI (v 71) row (v 79) ou lt lw oo d j e).2.2.2.2)) w t) _
        refine zk_T.adv 2 (f' := (43, [(0, .ref 69), (1, .ref 77), (2, .int sk), (3, .int (nI d)), (4, .int ((nI j) + 1))], [])) (h' := zH (zb (zb (zb (zb (zb v 68 (upd (v 68) 26 ((zr_mstI (v 71) row (v 79) ou lt lw oo d j e).2.1))) 76 ((zr_mstI (v 71) row (v 79) ou lt lw oo d j e).1)) 80 ((zr_mstI (v 71) row (v 79) ou lt lw oo d j e).2.2.1)) 81 ((zr_mstI (v 71) row (v 79) ou lt lw oo d j e).2.2.2.1)) 82 ((zr_mstI (v 71) row (v 79) ou lt lw oo d j e).2.2.2.2)) w t) rfl ?_
        rw [nI_1]
        simp only [zl_mygG, if_pos c2, hI, if_neg (nI_ne0 (show 0 < e + 1 by omega) (show e + 1 < 2 ^ 31 by omega)), nI_clamp (show e + 1 < 2 ^ 31 by omega), Nat.add_sub_cancel] at hk
        exact hk
    · have c2 : ¬ ((zr_mhasBit (row 14) (nI j)) = 0) := of_decide_eq_false c2
      refine zk_T.adv 2 (f' := (43, [(0, .ref 69), (1, .ref 77), (2, .int sk), (3, .int (nI d)), (4, .int ((nI j) + 1))], [])) (h' := zH (zb (zb (zb (zb (zb v 68 (upd (v 68) 26 ou)) 76 row) 80 lt) 81 lw) 82 oo) w t) rfl ?_
      rw [nI_1]
      simp only [zl_mygG, if_neg c2] at hk
      exact hk
  · obtain ⟨row, ou, lt, lw, oo⟩ := s
    show zk_T zk_mt zk_ex Ls xs zm_217 (43, [(0, .ref 69), (1, .ref 77), (2, .int sk), (3, .int (nI d)), (4, .int (nI (0 + Gn)))], []) (zH (zb (zb (zb (zb (zb v 68 (upd (v 68) 26 ou)) 76 row) 80 lt) 81 lw) 82 oo) w t) q
    have hp : zk_lie Gn row := hp
    refine zk_T.adv 4 (f' := (50, [(0, .ref 69), (1, .ref 77), (2, .int sk), (3, .int (nI d)), (4, .int (nI (0 + Gn)))], [.int 3, .ref 72, .int (nI (0 + Gn))])) (h' := zH (zb (zb (zb (zb (zb v 68 (upd (v 68) 26 ou)) 76 row) 80 lt) 81 lw) 82 oo) w t) rfl ?_
    refine zk_T.ob (f' := (51, [(0, .ref 69), (1, .ref 77), (2, .int sk), (3, .int (nI d)), (4, .int (nI (0 + Gn)))], [.int (v 71 (3 : Int32).toNatClampNeg), .int (nI (0 + Gn))])) (h' := zH (zb (zb (zb (zb (zb v 68 (upd (v 68) 26 ou)) 76 row) 80 lt) 81 lw) 82 oo) w t) rfl rfl ?_
    show zk_T zk_mt zk_ex Ls xs zm_217 (51, [(0, .ref 69), (1, .ref 77), (2, .int sk), (3, .int (nI d)), (4, .int (nI (0 + Gn)))], [.int (v 71 3), .int (nI (0 + Gn))]) (zH (zb (zb (zb (zb (zb v 68 (upd (v 68) 26 ou)) 76 row) 80 lt) 81 lw) 82 oo) w t) _
    refine zk_T.br (f1 := (80, [(0, .ref 69), (1, .ref 77), (2, .int sk), (3, .int (nI d)), (4, .int (nI (0 + Gn)))], [])) (f2 := (54, [(0, .ref 69), (1, .ref 77), (2, .int sk), (3, .int (nI d)), (4, .int (nI (0 + Gn)))], [])) rfl (fun c1 => ?_) (fun c1 => absurd (by rw [show _ = nI Gn from hG, Nat.zero_add]; exact nI_le (Nat.le_refl _) (by omega)) (of_decide_eq_false c1))
    exact hk
  · exact hP0
theorem zf_inv {σ : Type} {G : Nat → σ → σ} {P : σ → Prop} {n i : Nat} (h : ∀ j s, i ≤ j → j < i + n → P s → P (G j s)) : ∀ s, P s → P (zf G n i s) := by
  induction n generalizing i with
  | zero => intro s hp; exact hp
  | succ n ih =>
    intro s hp
    exact ih (fun j s a b c => h j s (by omega) (by omega) c) (G i s) (h i s (Nat.le_refl _) (by omega) hp)
theorem zl_myg_lie {Gn : Nat} {r slp : Nat → Int32} {d n : Nat} (h4 : Gn ≤ 4) (hn : n ≤ Gn) (s : (Nat → Int32) × Int32 × (Nat → Int32) × (Nat → Int32) × (Nat → Int32)) (hp : zk_lie Gn s.1) : zk_lie Gn (zf (zl_mygG r slp d) n 0 s).1 := by
  refine zf_inv (P := fun s => zk_lie Gn s.1) ?_ s hp
  intro j s hj1 hj2 hp
  obtain ⟨row, ou, lt, lw, oo⟩ := s
  have hp : zk_lie Gn row := hp
  show zk_lie Gn (zl_mygG r slp d j (row, ou, lt, lw, oo)).1
  unfold zl_mygG
  dsimp only
  split
  · split
    · exact zr_mstB_lie (slp := slp) hp h4
    · rename_i hz
      rcases hp j (by omega) with hB | ⟨e, he, hI⟩
      · exact absurd hB hz
      · rw [hI, nI_clamp (show e + 1 < 2 ^ 31 by omega)]
        exact zr_mstI_lie hp h4 (by omega)
  · exact hp
def zl_mydG (Gn : Nat) (r slp : Nat → Int32) (sk : Int32) (j : Nat) (s : (Nat → Int32) × Int32 × (Nat → Int32) × (Nat → Int32) × (Nat → Int32)) : (Nat → Int32) × Int32 × (Nat → Int32) × (Nat → Int32) × (Nat → Int32) := match s with
  | (row, ou, lt, lw, oo) => if (zr_mhasBit sk (nI j)) = 0 then (row, ou, lt, lw, oo) else ((zf (zl_mygG (r) (slp) j) Gn 0 (row, ou, lt, lw, oo)).1, (zf (zl_mygG (r) (slp) j) Gn 0 (row, ou, lt, lw, oo)).2.1, (zf (zl_mygG (r) (slp) j) Gn 0 (row, ou, lt, lw, oo)).2.2.1, (zf (zl_mygG (r) (slp) j) Gn 0 (row, ou, lt, lw, oo)).2.2.2.1, (zf (zl_mygG (r) (slp) j) Gn 0 (row, ou, lt, lw, oo)).2.2.2.2)
theorem zl_mydT (D : Nat) (hD : v 71 1 = nI D) (h8 : D ≤ 8) (Gn : Nat) (hG : v 71 3 = nI Gn) (h4 : Gn ≤ 4) (sk : Int32) : ∀ (s : (Nat → Int32) × Int32 × (Nat → Int32) × (Nat → Int32) × (Nat → Int32)) (q : Option Value × zk_H), zk_lie Gn s.1 → zk_T zk_mt zk_ex Ls xs zm_217 ((fun (s : (Nat → Int32) × Int32 × (Nat → Int32) × (Nat → Int32) × (Nat → Int32)) => ((86, [(0, .ref 69), (1, .ref 77), (2, .int sk), (3, .int (nI (0 + D)))], []) : zk_F)) (zf (zl_mydG Gn (v 71) (v 79) sk) D 0 s)) ((fun (s : (Nat → Int32) × Int32 × (Nat → Int32) × (Nat → Int32) × (Nat → Int32)) => zH (zb (zb (zb (zb (zb v 68 (upd (v 68) 26 s.2.1)) 76 s.1) 80 s.2.2.1) 81 s.2.2.2.1) 82 s.2.2.2.2) w t) (zf (zl_mydG Gn (v 71) (v 79) sk) D 0 s)) q → zk_T zk_mt zk_ex Ls xs zm_217 (19, [(0, .ref 69), (1, .ref 77), (2, .int sk), (3, .int (nI 0))], []) (zH (zb (zb (zb (zb (zb v 68 (upd (v 68) 26 s.2.1)) 76 s.1) 80 s.2.2.1) 81 s.2.2.2.1) 82 s.2.2.2.2) w t) q := by
  intro s q hP0 hk
  refine zk_forK (M := zm_217) (fun j (s : (Nat → Int32) × Int32 × (Nat → Int32) × (Nat → Int32) × (Nat → Int32)) => (19, [(0, .ref 69), (1, .ref 77), (2, .int sk), (3, .int (nI j))], [])) (fun _ (s : (Nat → Int32) × Int32 × (Nat → Int32) × (Nat → Int32) × (Nat → Int32)) => zH (zb (zb (zb (zb (zb v 68 (upd (v 68) 26 s.2.1)) 76 s.1) 80 s.2.2.1) 81 s.2.2.2.1) 82 s.2.2.2.2) w t) (zl_mydG Gn (v 71) (v 79) sk) (fun j (s : (Nat → Int32) × Int32 × (Nat → Int32) × (Nat → Int32) × (Nat → Int32)) => zk_lie Gn s.1) (fun (s : (Nat → Int32) × Int32 × (Nat → Int32) × (Nat → Int32) × (Nat → Int32)) => (86, [(0, .ref 69), (1, .ref 77), (2, .int sk), (3, .int (nI (0 + D)))], [])) (fun (s : (Nat → Int32) × Int32 × (Nat → Int32) × (Nat → Int32) × (Nat → Int32)) => zH (zb (zb (zb (zb (zb v 68 (upd (v 68) 26 s.2.1)) 76 s.1) 80 s.2.2.1) 81 s.2.2.2.1) 82 s.2.2.2.2) w t) (D) 0 s (fun j s hj1 hj2 hp => by
    obtain ⟨row, ou, lt, lw, oo⟩ := s
    have hp : zk_lie Gn row := hp
    show zk_lie Gn (zl_mydG Gn (v 71) (v 79) sk j (row, ou, lt, lw, oo)).1
    unfold zl_mydG
    dsimp only
    split
    · exact hp
    · exact zl_myg_lie h4 (Nat.le_refl _) _ hp) (fun j s hj1 hj2 hp q hk => ?_) (fun s hp q hk => ?_) ?_ q hk
  · obtain ⟨row, ou, lt, lw, oo⟩ := s
    show zk_T zk_mt zk_ex Ls xs zm_217 (19, [(0, .ref 69), (1, .ref 77), (2, .int sk), (3, .int (nI j))], []) (zH (zb (zb (zb (zb (zb v 68 (upd (v 68) 26 ou)) 76 row) 80 lt) 81 lw) 82 oo) w t) q
    have hp : zk_lie Gn row := hp
    refine zk_T.adv 4 (f' := (25, [(0, .ref 69), (1, .ref 77), (2, .int sk), (3, .int (nI j))], [.int 1, .ref 72, .int (nI j)])) (h' := zH (zb (zb (zb (zb (zb v 68 (upd (v 68) 26 ou)) 76 row) 80 lt) 81 lw) 82 oo) w t) rfl ?_
    refine zk_T.ob (f' := (26, [(0, .ref 69), (1, .ref 77), (2, .int sk), (3, .int (nI j))], [.int (v 71 (1 : Int32).toNatClampNeg), .int (nI j)])) (h' := zH (zb (zb (zb (zb (zb v 68 (upd (v 68) 26 ou)) 76 row) 80 lt) 81 lw) 82 oo) w t) rfl rfl ?_
    show zk_T zk_mt zk_ex Ls xs zm_217 (26, [(0, .ref 69), (1, .ref 77), (2, .int sk), (3, .int (nI j))], [.int (v 71 1), .int (nI j)]) (zH (zb (zb (zb (zb (zb v 68 (upd (v 68) 26 ou)) 76 row) 80 lt) 81 lw) 82 oo) w t) _
    refine zk_T.br (f1 := (86, [(0, .ref 69), (1, .ref 77), (2, .int sk), (3, .int (nI j))], [])) (f2 := (29, [(0, .ref 69), (1, .ref 77), (2, .int sk), (3, .int (nI j))], [])) rfl (fun c1 => absurd (of_decide_eq_true c1) (by rw [show _ = nI D from hD]; exact nI_ge (show j < D by omega) (by omega))) (fun c1 => ?_)
    refine zk_T.adv 2 (f' := (31, [(0, .ref 69), (1, .ref 77), (2, .int sk), (3, .int (nI j))], [.int (nI j), .int sk])) (h' := zH (zb (zb (zb (zb (zb v 68 (upd (v 68) 26 ou)) 76 row) 80 lt) 81 lw) 82 oo) w t) rfl ?_
    refine zk_T.cl (v := some (.int (zr_mhasBit sk (nI j)))) (h' := zH (zb (zb (zb (zb (zb v 68 (upd (v 68) 26 ou)) 76 row) 80 lt) 81 lw) 82 oo) w t) rfl (zs_mhasBit sk (nI j)) ?_
    show zk_T zk_mt zk_ex Ls xs zm_217 (34, [(0, .ref 69), (1, .ref 77), (2, .int sk), (3, .int (nI j))], [.int (zr_mhasBit sk (nI j))]) (zH (zb (zb (zb (zb (zb v 68 (upd (v 68) 26 ou)) 76 row) 80 lt) 81 lw) 82 oo) w t) _
    refine zk_T.br (f1 := (37, [(0, .ref 69), (1, .ref 77), (2, .int sk), (3, .int (nI j))], [])) (f2 := (40, [(0, .ref 69), (1, .ref 77), (2, .int sk), (3, .int (nI j))], [])) rfl (fun c2 => ?_) (fun c2 => ?_)
    · have c2 : (zr_mhasBit sk (nI j)) = 0 := of_decide_eq_true c2
      refine zk_T.adv 3 (f' := (19, [(0, .ref 69), (1, .ref 77), (2, .int sk), (3, .int ((nI j) + 1))], [])) (h' := zH (zb (zb (zb (zb (zb v 68 (upd (v 68) 26 ou)) 76 row) 80 lt) 81 lw) 82 oo) w t) rfl ?_
      rw [nI_1]
      simp only [zl_mydG, if_pos c2] at hk
      exact hk
    · have c2 : ¬ ((zr_mhasBit sk (nI j)) = 0) := of_decide_eq_false c2
      refine zk_T.adv 2 (f' := (43, [(0, .ref 69), (1, .ref 77), (2, .int sk), (3, .int (nI j)), (4, .int 0)], [])) (h' := zH (zb (zb (zb (zb (zb v 68 (upd (v 68) 26 ou)) 76 row) 80 lt) 81 lw) 82 oo) w t) rfl ?_
      refine zl_mygT (v := v) (w := w) (t := t) Gn hG h4 sk j (by omega) (row, ou, lt, lw, oo) _ hp ?_
      show zk_T zk_mt zk_ex Ls xs zm_217 (80, [(0, .ref 69), (1, .ref 77), (2, .int sk), (3, .int (nI j)), (4, .int (nI (0 + Gn)))], []) (zH (zb (zb (zb (zb (zb v 68 (upd (v 68) 26 ((zf (zl_mygG (v 71) (v 79) j) Gn 0 (row, ou, lt, lw, oo)).2.1))) 76 ((zf (zl_mygG (v 71) (v 79) j) Gn 0 (row, ou, lt, lw, oo)).1)) 80 ((zf (zl_mygG (v 71) (v 79) j) Gn 0 (row, ou, lt, lw, oo)).2.2.1)) 81 ((zf (zl_mygG (v 71) (v 79) j) Gn 0 (row, ou, lt, lw, oo)).2.2.2.1)) 82 ((zf (zl_mygG (v 71) (v 79) j) Gn 0 (row, ou, lt, lw, oo)).2.2.2.2)) w t) _
      refine zk_T.adv 2 (f' := (19, [(0, .ref 69), (1, .ref 77), (2, .int sk), (3, .int ((nI j) + 1))], [])) (h' := zH (zb (zb (zb (zb (zb v 68 (upd (v 68) 26 ((zf (zl_mygG (v 71) (v 79) j) Gn 0 (row, ou, lt, lw, oo)).2.1))) 76 ((zf (zl_mygG (v 71) (v 79) j) Gn 0 (row, ou, lt, lw, oo)).1)) 80 ((zf (zl_mygG (v 71) (v 79) j) Gn 0 (row, ou, lt, lw, oo)).2.2.1)) 81 ((zf (zl_mygG (v 71) (v 79) j) Gn 0 (row, ou, lt, lw, oo)).2.2.2.1)) 82 ((zf (zl_mygG (v 71) (v 79) j) Gn 0 (row, ou, lt, lw, oo)).2.2.2.2)) w t) rfl ?_
      rw [nI_1]
      simp only [zl_mydG, if_neg c2] at hk
      exact hk
  · obtain ⟨row, ou, lt, lw, oo⟩ := s
    show zk_T zk_mt zk_ex Ls xs zm_217 (19, [(0, .ref 69), (1, .ref 77), (2, .int sk), (3, .int (nI (0 + D)))], []) (zH (zb (zb (zb (zb (zb v 68 (upd (v 68) 26 ou)) 76 row) 80 lt) 81 lw) 82 oo) w t) q
    have hp : zk_lie Gn row := hp
    refine zk_T.adv 4 (f' := (25, [(0, .ref 69), (1, .ref 77), (2, .int sk), (3, .int (nI (0 + D)))], [.int 1, .ref 72, .int (nI (0 + D))])) (h' := zH (zb (zb (zb (zb (zb v 68 (upd (v 68) 26 ou)) 76 row) 80 lt) 81 lw) 82 oo) w t) rfl ?_
    refine zk_T.ob (f' := (26, [(0, .ref 69), (1, .ref 77), (2, .int sk), (3, .int (nI (0 + D)))], [.int (v 71 (1 : Int32).toNatClampNeg), .int (nI (0 + D))])) (h' := zH (zb (zb (zb (zb (zb v 68 (upd (v 68) 26 ou)) 76 row) 80 lt) 81 lw) 82 oo) w t) rfl rfl ?_
    show zk_T zk_mt zk_ex Ls xs zm_217 (26, [(0, .ref 69), (1, .ref 77), (2, .int sk), (3, .int (nI (0 + D)))], [.int (v 71 1), .int (nI (0 + D))]) (zH (zb (zb (zb (zb (zb v 68 (upd (v 68) 26 ou)) 76 row) 80 lt) 81 lw) 82 oo) w t) _
    refine zk_T.br (f1 := (86, [(0, .ref 69), (1, .ref 77), (2, .int sk), (3, .int (nI (0 + D)))], [])) (f2 := (29, [(0, .ref 69), (1, .ref 77), (2, .int sk), (3, .int (nI (0 + D)))], [])) rfl (fun c1 => ?_) (fun c1 => absurd (by rw [show _ = nI D from hD, Nat.zero_add]; exact nI_le (Nat.le_refl _) (by omega)) (of_decide_eq_false c1))
    exact hk
  · exact hP0
theorem zl_myd_lie {Gn : Nat} {r slp : Nat → Int32} {sk : Int32} {n : Nat} (h4 : Gn ≤ 4) (s : (Nat → Int32) × Int32 × (Nat → Int32) × (Nat → Int32) × (Nat → Int32)) (hp : zk_lie Gn s.1) : zk_lie Gn (zf (zl_mydG Gn r slp sk) n 0 s).1 := by
  refine zf_inv (P := fun s => zk_lie Gn s.1) ?_ s hp
  intro j s hj1 hj2 hp
  obtain ⟨row, ou, lt, lw, oo⟩ := s
  have hp : zk_lie Gn row := hp
  show zk_lie Gn (zl_mydG Gn r slp sk j (row, ou, lt, lw, oo)).1
  unfold zl_mydG
  dsimp only
  split
  · exact hp
  · exact zl_myg_lie h4 (Nat.le_refl _) _ hp
def zr_myear (D Gn : Nat) (r row slp : Nat → Int32) (ou : Int32) (lt lw oo : Nat → Int32) : (Nat → Int32) × Int32 × (Nat → Int32) × (Nat → Int32) × (Nat → Int32) := ((zf (zl_mydG Gn (r) (slp) (zr_mstrikersIn D (r) ((upd (row) 15 ((row 15) + 1)) 15))) D 0 (upd (row) 15 ((row 15) + 1), ou, lt, lw, oo)).1, (zf (zl_mydG Gn (r) (slp) (zr_mstrikersIn D (r) ((upd (row) 15 ((row 15) + 1)) 15))) D 0 (upd (row) 15 ((row 15) + 1), ou, lt, lw, oo)).2.1, (zf (zl_mydG Gn (r) (slp) (zr_mstrikersIn D (r) ((upd (row) 15 ((row 15) + 1)) 15))) D 0 (upd (row) 15 ((row 15) + 1), ou, lt, lw, oo)).2.2.1, (zf (zl_mydG Gn (r) (slp) (zr_mstrikersIn D (r) ((upd (row) 15 ((row 15) + 1)) 15))) D 0 (upd (row) 15 ((row 15) + 1), ou, lt, lw, oo)).2.2.2.1, (zf (zl_mydG Gn (r) (slp) (zr_mstrikersIn D (r) ((upd (row) 15 ((row 15) + 1)) 15))) D 0 (upd (row) 15 ((row 15) + 1), ou, lt, lw, oo)).2.2.2.2)
/-- BasketKeepModel.yearOn -/
theorem zs_myearOnT (D : Nat) (hD : v 71 1 = nI D) (h8 : D ≤ 8) (Gn : Nat) (hG : v 71 3 = nI Gn) (h4 : Gn ≤ 4) (hev : ∀ d, d < D → ¬ v 71 (7 + 2 * d) = 0) (hli : zk_lie Gn (v 76)) : zk_Cr zk_mt zk_ex Ls xs 217 [.ref 69, .ref 77] (zH v w t) (none, zH (zb (zb (zb (zb (zb v 68 (upd (v 68) 26 ((zr_myear D Gn (v 71) (v 76) (v 79) (v 68 26) (v 80) (v 81) (v 82)).2.1))) 76 ((zr_myear D Gn (v 71) (v 76) (v 79) (v 68 26) (v 80) (v 81) (v 82)).1)) 80 ((zr_myear D Gn (v 71) (v 76) (v 79) (v 68 26) (v 80) (v 81) (v 82)).2.2.1)) 81 ((zr_myear D Gn (v 71) (v 76) (v 79) (v 68 26) (v 80) (v 81) (v 82)).2.2.2.1)) 82 ((zr_myear D Gn (v 71) (v 76) (v 79) (v 68 26) (v 80) (v 81) (v 82)).2.2.2.2)) w t) := by
  refine zk_Cr.of (K := zm_217) rfl rfl rfl ?_
  show zk_T zk_mt zk_ex Ls xs zm_217 (0, [(0, .ref 69), (1, .ref 77)], []) (zH v w t) _
  refine zk_T.adv 3 (f' := (4, [(0, .ref 69), (1, .ref 77)], [.int 15, .ref 77, .int 15, .ref 77])) (h' := zH v w t) rfl ?_
  refine zk_T.ob (f' := (5, [(0, .ref 69), (1, .ref 77)], [.int (v 76 (15 : Int32).toNatClampNeg), .int 15, .ref 77])) (h' := zH v w t) rfl rfl ?_
  show zk_T zk_mt zk_ex Ls xs zm_217 (5, [(0, .ref 69), (1, .ref 77)], [.int (v 76 15), .int 15, .ref 77]) (zH v w t) _
  refine zk_T.adv 2 (f' := (7, [(0, .ref 69), (1, .ref 77)], [.int ((v 76 15) + 1), .int 15, .ref 77])) (h' := zH v w t) rfl ?_
  refine zk_T.ob (f' := (8, [(0, .ref 69), (1, .ref 77)], [])) (h' := zH (zb v 76 (upd (v 76) (15 : Int32).toNatClampNeg ((v 76 15) + 1))) w t) rfl rfl ?_
  show zk_T zk_mt zk_ex Ls xs zm_217 (8, [(0, .ref 69), (1, .ref 77)], []) (zH (zb v 76 (upd (v 76) 15 ((v 76 15) + 1))) w t) _
  refine zk_T.adv 3 (f' := (12, [(0, .ref 69), (1, .ref 77)], [.int 15, .ref 77, .ref 69])) (h' := zH (zb v 76 (upd (v 76) 15 ((v 76 15) + 1))) w t) rfl ?_
  refine zk_T.ob (f' := (13, [(0, .ref 69), (1, .ref 77)], [.int ((upd (v 76) 15 ((v 76 15) + 1)) (15 : Int32).toNatClampNeg), .ref 69])) (h' := zH (zb v 76 (upd (v 76) 15 ((v 76 15) + 1))) w t) rfl rfl ?_
  show zk_T zk_mt zk_ex Ls xs zm_217 (13, [(0, .ref 69), (1, .ref 77)], [.int ((upd (v 76) 15 ((v 76 15) + 1)) 15), .ref 69]) (zH (zb v 76 (upd (v 76) 15 ((v 76 15) + 1))) w t) _
  refine zk_T.cl (v := some (.int (zr_mstrikersIn D (v 71) ((upd (v 76) 15 ((v 76 15) + 1)) 15)))) (h' := zH (zb v 76 (upd (v 76) 15 ((v 76 15) + 1))) w t) rfl (zs_mstrikersIn (v := (zb v 76 (upd (v 76) 15 ((v 76 15) + 1)))) D hD h8 hev ((upd (v 76) 15 ((v 76 15) + 1)) 15)) ?_
  show zk_T zk_mt zk_ex Ls xs zm_217 (16, [(0, .ref 69), (1, .ref 77)], [.int (zr_mstrikersIn D (v 71) ((upd (v 76) 15 ((v 76 15) + 1)) 15))]) (zH (zb v 76 (upd (v 76) 15 ((v 76 15) + 1))) w t) _
  refine zk_T.adv 3 (f' := (19, [(0, .ref 69), (1, .ref 77), (2, .int (zr_mstrikersIn D (v 71) ((upd (v 76) 15 ((v 76 15) + 1)) 15))), (3, .int 0)], [])) (h' := zH (zb v 76 (upd (v 76) 15 ((v 76 15) + 1))) w t) rfl ?_
  refine zl_mydT (v := v) (w := w) (t := t) D hD h8 Gn hG h4 (zr_mstrikersIn D (v 71) ((upd (v 76) 15 ((v 76 15) + 1)) 15)) (upd (v 76) 15 ((v 76 15) + 1), (v 68 26), v 80, v 81, v 82) _ (zk_lieU hli h4 (by omega) _) ?_
  show zk_T zk_mt zk_ex Ls xs zm_217 (86, [(0, .ref 69), (1, .ref 77), (2, .int (zr_mstrikersIn D (v 71) ((upd (v 76) 15 ((v 76 15) + 1)) 15))), (3, .int (nI (0 + D)))], []) (zH (zb (zb (zb (zb (zb v 68 (upd (v 68) 26 ((zf (zl_mydG Gn (v 71) (v 79) (zr_mstrikersIn D (v 71) ((upd (v 76) 15 ((v 76 15) + 1)) 15))) D 0 (upd (v 76) 15 ((v 76 15) + 1), (v 68 26), v 80, v 81, v 82)).2.1))) 76 ((zf (zl_mydG Gn (v 71) (v 79) (zr_mstrikersIn D (v 71) ((upd (v 76) 15 ((v 76 15) + 1)) 15))) D 0 (upd (v 76) 15 ((v 76 15) + 1), (v 68 26), v 80, v 81, v 82)).1)) 80 ((zf (zl_mydG Gn (v 71) (v 79) (zr_mstrikersIn D (v 71) ((upd (v 76) 15 ((v 76 15) + 1)) 15))) D 0 (upd (v 76) 15 ((v 76 15) + 1), (v 68 26), v 80, v 81, v 82)).2.2.1)) 81 ((zf (zl_mydG Gn (v 71) (v 79) (zr_mstrikersIn D (v 71) ((upd (v 76) 15 ((v 76 15) + 1)) 15))) D 0 (upd (v 76) 15 ((v 76 15) + 1), (v 68 26), v 80, v 81, v 82)).2.2.2.1)) 82 ((zf (zl_mydG Gn (v 71) (v 79) (zr_mstrikersIn D (v 71) ((upd (v 76) 15 ((v 76 15) + 1)) 15))) D 0 (upd (v 76) 15 ((v 76 15) + 1), (v 68 26), v 80, v 81, v 82)).2.2.2.2)) w t) _
  exact zk_T.rt rfl rfl (by simp only [zr_myear] <;> rfl)
theorem zr_myear_lie {D Gn : Nat} {r row slp : Nat → Int32} {ou : Int32} {lt lw oo : Nat → Int32} (h4 : Gn ≤ 4) (hp : zk_lie Gn row) : zk_lie Gn (zr_myear D Gn r row slp ou lt lw oo).1 := by
  unfold zr_myear
  exact zl_myd_lie h4 _ (zk_lieU hp h4 (by omega) _)
/-- BasketKeepModel.outOf -/
theorem zs_moutOfS (e : Nat) (he : e < 5) (y : Int32) : zk_Cr zk_mt zk_ex Ls xs 172 [.ref 69, .ref 76, .int (nI e), .int y] (zH v w t) (some (.int (zr_moutOf (v 71) (v 75) (v 79) e y)), zH v w t) := by
  refine zk_Cr.of (K := zm_172) rfl rfl rfl ?_
  show zk_T zk_mt zk_ex Ls xs zm_172 (0, [(0, .ref 69), (1, .ref 76), (2, .int (nI e)), (3, .int y)], []) (zH v w t) _
  refine zk_T.adv 2 (f' := (2, [(0, .ref 69), (1, .ref 76), (2, .int (nI e)), (3, .int y)], [.int (nI e), .ref 76])) (h' := zH v w t) rfl ?_
  refine zk_T.ob (f' := (3, [(0, .ref 69), (1, .ref 76), (2, .int (nI e)), (3, .int y)], [.int (v 75 (nI e).toNatClampNeg)])) (h' := zH v w t) rfl (by first | exact zk_inN (by omega) (by decide) | decide) ?_
  rw [nI_clamp (show e < 2 ^ 31 by omega)]
  refine zk_T.br (f1 := (6, [(0, .ref 69), (1, .ref 76), (2, .int (nI e)), (3, .int y)], [])) (f2 := (8, [(0, .ref 69), (1, .ref 76), (2, .int (nI e)), (3, .int y)], [])) rfl (fun c1 => ?_) (fun c1 => ?_)
  · have c1 : (v 75 e) = 0 := of_decide_eq_true c1
    refine zk_T.adv 1 (f' := (7, [(0, .ref 69), (1, .ref 76), (2, .int (nI e)), (3, .int y)], [.int 0])) (h' := zH v w t) rfl ?_
    exact zk_T.rt rfl rfl (by simp only [zr_moutOf, if_pos c1])
  · have c1 : ¬ ((v 75 e) = 0) := of_decide_eq_false c1
    refine zk_T.adv 4 (f' := (12, [(0, .ref 69), (1, .ref 76), (2, .int (nI e)), (3, .int y)], [.int (5 + (nI e)), .ref 76])) (h' := zH v w t) rfl ?_
    rw [show 5 + (nI e) = nI (5 + e) from nI_add 5 e]
    refine zk_T.ob (f' := (13, [(0, .ref 69), (1, .ref 76), (2, .int (nI e)), (3, .int y)], [.int (v 75 (nI (5 + e)).toNatClampNeg)])) (h' := zH v w t) rfl (by first | exact zk_inN (by omega) (by decide) | decide) ?_
    rw [nI_clamp (show (5 + e) < 2 ^ 31 by omega)]
    refine zk_T.adv 7 (f' := (24, [(0, .ref 69), (1, .ref 76), (2, .int (nI e)), (3, .int y), (4, .int (v 75 (5 + e)))], [.int (2 * (nI e)), .int 23, .ref 72])) (h' := zH v w t) rfl ?_
    rw [show 2 * (nI e) = nI (2 * e) from pk_mul 2 e]
    refine zk_T.adv 1 (f' := (25, [(0, .ref 69), (1, .ref 76), (2, .int (nI e)), (3, .int y), (4, .int (v 75 (5 + e)))], [.int (23 + (nI (2 * e))), .ref 72])) (h' := zH v w t) rfl ?_
    rw [show 23 + (nI (2 * e)) = nI (23 + (2 * e)) from nI_add 23 (2 * e)]
    refine zk_T.ob (f' := (26, [(0, .ref 69), (1, .ref 76), (2, .int (nI e)), (3, .int y), (4, .int (v 75 (5 + e)))], [.int (v 71 (nI (23 + (2 * e))).toNatClampNeg)])) (h' := zH v w t) rfl (by first | exact zk_inN (by omega) (by decide) | decide) ?_
    rw [nI_clamp (show (23 + (2 * e)) < 2 ^ 31 by omega)]
    refine zk_T.adv 3 (f' := (31, [(0, .ref 69), (1, .ref 76), (2, .int (nI e)), (3, .int y), (4, .int (v 75 (5 + e))), (5, .int (v 71 (23 + (2 * e))))], [.int 2, .int (v 71 (23 + (2 * e)))])) (h' := zH v w t) rfl ?_
    refine zk_T.br (f1 := (34, [(0, .ref 69), (1, .ref 76), (2, .int (nI e)), (3, .int y), (4, .int (v 75 (5 + e))), (5, .int (v 71 (23 + (2 * e))))], [])) (f2 := (43, [(0, .ref 69), (1, .ref 76), (2, .int (nI e)), (3, .int y), (4, .int (v 75 (5 + e))), (5, .int (v 71 (23 + (2 * e))))], [])) rfl (fun c2 => ?_) (fun c2 => ?_)
    · have c2 : (v 71 (23 + (2 * e))) = 2 := of_decide_eq_true c2
      refine zk_T.adv 2 (f' := (36, [(0, .ref 69), (1, .ref 76), (2, .int (nI e)), (3, .int y), (4, .int (v 75 (5 + e))), (5, .int (v 71 (23 + (2 * e))))], [.int 2, .int y])) (h' := zH v w t) rfl ?_
      refine zk_T.ob (f' := (37, [(0, .ref 69), (1, .ref 76), (2, .int (nI e)), (3, .int y), (4, .int (v 75 (5 + e))), (5, .int (v 71 (23 + (2 * e))))], [.int (y - y / 2 * 2)])) (h' := zH v w t) rfl (by decide) ?_
      refine zk_T.adv 1 (f' := (38, [(0, .ref 69), (1, .ref 76), (2, .int (nI e)), (3, .int y), (4, .int (v 75 (5 + e))), (5, .int (v 71 (23 + (2 * e))))], [.int 1, .int (y - y / 2 * 2)])) (h' := zH v w t) rfl ?_
      refine zk_T.br (f1 := (41, [(0, .ref 69), (1, .ref 76), (2, .int (nI e)), (3, .int y), (4, .int (v 75 (5 + e))), (5, .int (v 71 (23 + (2 * e))))], [])) (f2 := (43, [(0, .ref 69), (1, .ref 76), (2, .int (nI e)), (3, .int y), (4, .int (v 75 (5 + e))), (5, .int (v 71 (23 + (2 * e))))], [])) rfl (fun c3 => ?_) (fun c3 => ?_)
      · have c3 : (y - y / 2 * 2) = 1 := of_decide_eq_true c3
        refine zk_T.adv 1 (f' := (42, [(0, .ref 69), (1, .ref 76), (2, .int (nI e)), (3, .int y), (4, .int (v 75 (5 + e))), (5, .int (v 71 (23 + (2 * e))))], [.int 0])) (h' := zH v w t) rfl ?_
        exact zk_T.rt rfl rfl (by simp only [zr_moutOf, if_neg c1, if_pos c2, if_pos c3])
      · have c3 : ¬ ((y - y / 2 * 2) = 1) := of_decide_eq_false c3
        refine zk_T.adv 2 (f' := (46, [(0, .ref 69), (1, .ref 76), (2, .int (nI e)), (3, .int y), (4, .int (v 75 (5 + e))), (5, .int (v 71 (23 + (2 * e))))], [.int 1, .int (v 71 (23 + (2 * e)))])) (h' := zH v w t) rfl ?_
        refine zk_T.br (f1 := (49, [(0, .ref 69), (1, .ref 76), (2, .int (nI e)), (3, .int y), (4, .int (v 75 (5 + e))), (5, .int (v 71 (23 + (2 * e))))], [])) (f2 := (68, [(0, .ref 69), (1, .ref 76), (2, .int (nI e)), (3, .int y), (4, .int (v 75 (5 + e))), (5, .int (v 71 (23 + (2 * e))))], [])) rfl (fun c4 => ?_) (fun c4 => ?_)
        · have c4 : (v 71 (23 + (2 * e))) = 1 := of_decide_eq_true c4
          refine zk_T.adv 1 (f' := (51, [(0, .ref 69), (1, .ref 76), (2, .int (nI e)), (3, .int y), (4, .int (v 75 (5 + e))), (5, .int (v 71 (23 + (2 * e))))], [.int (v 75 (5 + e))])) (h' := zH v w t) rfl ?_
          refine zk_T.br (f1 := (68, [(0, .ref 69), (1, .ref 76), (2, .int (nI e)), (3, .int y), (4, .int (v 75 (5 + e))), (5, .int (v 71 (23 + (2 * e))))], [])) (f2 := (54, [(0, .ref 69), (1, .ref 76), (2, .int (nI e)), (3, .int y), (4, .int (v 75 (5 + e))), (5, .int (v 71 (23 + (2 * e))))], [])) rfl (fun c5 => ?_) (fun c5 => ?_)
          · have c5 : (v 75 (5 + e)) = 0 := of_decide_eq_true c5
            refine zk_T.adv 4 (f' := (75, [(0, .ref 69), (1, .ref 76), (2, .int (nI e)), (3, .int y), (4, .int (v 75 (5 + e))), (5, .int (v 71 (23 + (2 * e))))], [.int (nI e), .ref 80, .int (v 75 (5 + e))])) (h' := zH v w t) rfl ?_
            refine zk_T.ob (f' := (76, [(0, .ref 69), (1, .ref 76), (2, .int (nI e)), (3, .int y), (4, .int (v 75 (5 + e))), (5, .int (v 71 (23 + (2 * e))))], [.int (v 79 (nI e).toNatClampNeg), .int (v 75 (5 + e))])) (h' := zH v w t) rfl (by first | exact zk_inN (by omega) (by decide) | decide) ?_
            rw [nI_clamp (show e < 2 ^ 31 by omega)]
            refine zk_T.adv 3 (f' := (79, [(0, .ref 69), (1, .ref 76), (2, .int (nI e)), (3, .int y), (4, .int (v 75 (5 + e))), (5, .int (v 71 (23 + (2 * e))))], [.int ((v 75 (5 + e)) &&& ((v 79 e) ^^^ (-1)))])) (h' := zH v w t) rfl ?_
            exact zk_T.rt rfl rfl (by simp only [zr_moutOf, if_neg c1, if_pos c2, if_neg c3, if_pos c4, if_pos c5])
          · have c5 : ¬ ((v 75 (5 + e)) = 0) := of_decide_eq_false c5
            refine zk_T.adv 3 (f' := (59, [(0, .ref 69), (1, .ref 76), (2, .int (nI e)), (3, .int y), (4, .int (v 75 (5 + e))), (5, .int (v 71 (23 + (2 * e))))], [.int (v 75 (5 + e)), .int 1, .int (v 75 (5 + e))])) (h' := zH v w t) rfl ?_
            refine zk_T.cl (v := some (.int (zr_mhighest (v 75 (5 + e))))) (h' := zH v w t) rfl (zs_mhighest (v 75 (5 + e))) ?_
            show zk_T zk_mt zk_ex Ls xs zm_172 (62, [(0, .ref 69), (1, .ref 76), (2, .int (nI e)), (3, .int y), (4, .int (v 75 (5 + e))), (5, .int (v 71 (23 + (2 * e))))], [.int (zr_mhighest (v 75 (5 + e))), .int 1, .int (v 75 (5 + e))]) (zH v w t) _
            refine zk_T.adv 9 (f' := (75, [(0, .ref 69), (1, .ref 76), (2, .int (nI e)), (3, .int y), (4, .int ((v 75 (5 + e)) &&& (((1 : Int32) <<< ((zr_mhighest (v 75 (5 + e))) &&& 31)) ^^^ (-1)))), (5, .int (v 71 (23 + (2 * e))))], [.int (nI e), .ref 80, .int ((v 75 (5 + e)) &&& (((1 : Int32) <<< ((zr_mhighest (v 75 (5 + e))) &&& 31)) ^^^ (-1)))])) (h' := zH v w t) rfl ?_
            refine zk_T.ob (f' := (76, [(0, .ref 69), (1, .ref 76), (2, .int (nI e)), (3, .int y), (4, .int ((v 75 (5 + e)) &&& (((1 : Int32) <<< ((zr_mhighest (v 75 (5 + e))) &&& 31)) ^^^ (-1)))), (5, .int (v 71 (23 + (2 * e))))], [.int (v 79 (nI e).toNatClampNeg), .int ((v 75 (5 + e)) &&& (((1 : Int32) <<< ((zr_mhighest (v 75 (5 + e))) &&& 31)) ^^^ (-1)))])) (h' := zH v w t) rfl (by first | exact zk_inN (by omega) (by decide) | decide) ?_
            rw [nI_clamp (show e < 2 ^ 31 by omega)]
            refine zk_T.adv 3 (f' := (79, [(0, .ref 69), (1, .ref 76), (2, .int (nI e)), (3, .int y), (4, .int ((v 75 (5 + e)) &&& (((1 : Int32) <<< ((zr_mhighest (v 75 (5 + e))) &&& 31)) ^^^ (-1)))), (5, .int (v 71 (23 + (2 * e))))], [.int (((v 75 (5 + e)) &&& (((1 : Int32) <<< ((zr_mhighest (v 75 (5 + e))) &&& 31)) ^^^ (-1))) &&& ((v 79 e) ^^^ (-1)))])) (h' := zH v w t) rfl ?_
            exact zk_T.rt rfl rfl (by simp only [zr_moutOf, if_neg c1, if_pos c2, if_neg c3, if_pos c4, if_neg c5])
        · have c4 : ¬ ((v 71 (23 + (2 * e))) = 1) := of_decide_eq_false c4
          refine zk_T.adv 4 (f' := (75, [(0, .ref 69), (1, .ref 76), (2, .int (nI e)), (3, .int y), (4, .int (v 75 (5 + e))), (5, .int (v 71 (23 + (2 * e))))], [.int (nI e), .ref 80, .int (v 75 (5 + e))])) (h' := zH v w t) rfl ?_
          refine zk_T.ob (f' := (76, [(0, .ref 69), (1, .ref 76), (2, .int (nI e)), (3, .int y), (4, .int (v 75 (5 + e))), (5, .int (v 71 (23 + (2 * e))))], [.int (v 79 (nI e).toNatClampNeg), .int (v 75 (5 + e))])) (h' := zH v w t) rfl (by first | exact zk_inN (by omega) (by decide) | decide) ?_
          rw [nI_clamp (show e < 2 ^ 31 by omega)]
          refine zk_T.adv 3 (f' := (79, [(0, .ref 69), (1, .ref 76), (2, .int (nI e)), (3, .int y), (4, .int (v 75 (5 + e))), (5, .int (v 71 (23 + (2 * e))))], [.int ((v 75 (5 + e)) &&& ((v 79 e) ^^^ (-1)))])) (h' := zH v w t) rfl ?_
          exact zk_T.rt rfl rfl (by simp only [zr_moutOf, if_neg c1, if_pos c2, if_neg c3, if_neg c4])
    · have c2 : ¬ ((v 71 (23 + (2 * e))) = 2) := of_decide_eq_false c2
      refine zk_T.adv 2 (f' := (46, [(0, .ref 69), (1, .ref 76), (2, .int (nI e)), (3, .int y), (4, .int (v 75 (5 + e))), (5, .int (v 71 (23 + (2 * e))))], [.int 1, .int (v 71 (23 + (2 * e)))])) (h' := zH v w t) rfl ?_
      refine zk_T.br (f1 := (49, [(0, .ref 69), (1, .ref 76), (2, .int (nI e)), (3, .int y), (4, .int (v 75 (5 + e))), (5, .int (v 71 (23 + (2 * e))))], [])) (f2 := (68, [(0, .ref 69), (1, .ref 76), (2, .int (nI e)), (3, .int y), (4, .int (v 75 (5 + e))), (5, .int (v 71 (23 + (2 * e))))], [])) rfl (fun c6 => ?_) (fun c6 => ?_)
      · have c6 : (v 71 (23 + (2 * e))) = 1 := of_decide_eq_true c6
        refine zk_T.adv 1 (f' := (51, [(0, .ref 69), (1, .ref 76), (2, .int (nI e)), (3, .int y), (4, .int (v 75 (5 + e))), (5, .int (v 71 (23 + (2 * e))))], [.int (v 75 (5 + e))])) (h' := zH v w t) rfl ?_
        refine zk_T.br (f1 := (68, [(0, .ref 69), (1, .ref 76), (2, .int (nI e)), (3, .int y), (4, .int (v 75 (5 + e))), (5, .int (v 71 (23 + (2 * e))))], [])) (f2 := (54, [(0, .ref 69), (1, .ref 76), (2, .int (nI e)), (3, .int y), (4, .int (v 75 (5 + e))), (5, .int (v 71 (23 + (2 * e))))], [])) rfl (fun c7 => ?_) (fun c7 => ?_)
        · have c7 : (v 75 (5 + e)) = 0 := of_decide_eq_true c7
          refine zk_T.adv 4 (f' := (75, [(0, .ref 69), (1, .ref 76), (2, .int (nI e)), (3, .int y), (4, .int (v 75 (5 + e))), (5, .int (v 71 (23 + (2 * e))))], [.int (nI e), .ref 80, .int (v 75 (5 + e))])) (h' := zH v w t) rfl ?_
          refine zk_T.ob (f' := (76, [(0, .ref 69), (1, .ref 76), (2, .int (nI e)), (3, .int y), (4, .int (v 75 (5 + e))), (5, .int (v 71 (23 + (2 * e))))], [.int (v 79 (nI e).toNatClampNeg), .int (v 75 (5 + e))])) (h' := zH v w t) rfl (by first | exact zk_inN (by omega) (by decide) | decide) ?_
          rw [nI_clamp (show e < 2 ^ 31 by omega)]
          refine zk_T.adv 3 (f' := (79, [(0, .ref 69), (1, .ref 76), (2, .int (nI e)), (3, .int y), (4, .int (v 75 (5 + e))), (5, .int (v 71 (23 + (2 * e))))], [.int ((v 75 (5 + e)) &&& ((v 79 e) ^^^ (-1)))])) (h' := zH v w t) rfl ?_
          exact zk_T.rt rfl rfl (by simp only [zr_moutOf, if_neg c1, if_neg c2, if_pos c6, if_pos c7])
        · have c7 : ¬ ((v 75 (5 + e)) = 0) := of_decide_eq_false c7
          refine zk_T.adv 3 (f' := (59, [(0, .ref 69), (1, .ref 76), (2, .int (nI e)), (3, .int y), (4, .int (v 75 (5 + e))), (5, .int (v 71 (23 + (2 * e))))], [.int (v 75 (5 + e)), .int 1, .int (v 75 (5 + e))])) (h' := zH v w t) rfl ?_
          refine zk_T.cl (v := some (.int (zr_mhighest (v 75 (5 + e))))) (h' := zH v w t) rfl (zs_mhighest (v 75 (5 + e))) ?_
          show zk_T zk_mt zk_ex Ls xs zm_172 (62, [(0, .ref 69), (1, .ref 76), (2, .int (nI e)), (3, .int y), (4, .int (v 75 (5 + e))), (5, .int (v 71 (23 + (2 * e))))], [.int (zr_mhighest (v 75 (5 + e))), .int 1, .int (v 75 (5 + e))]) (zH v w t) _
          refine zk_T.adv 9 (f' := (75, [(0, .ref 69), (1, .ref 76), (2, .int (nI e)), (3, .int y), (4, .int ((v 75 (5 + e)) &&& (((1 : Int32) <<< ((zr_mhighest (v 75 (5 + e))) &&& 31)) ^^^ (-1)))), (5, .int (v 71 (23 + (2 * e))))], [.int (nI e), .ref 80, .int ((v 75 (5 + e)) &&& (((1 : Int32) <<< ((zr_mhighest (v 75 (5 + e))) &&& 31)) ^^^ (-1)))])) (h' := zH v w t) rfl ?_
          refine zk_T.ob (f' := (76, [(0, .ref 69), (1, .ref 76), (2, .int (nI e)), (3, .int y), (4, .int ((v 75 (5 + e)) &&& (((1 : Int32) <<< ((zr_mhighest (v 75 (5 + e))) &&& 31)) ^^^ (-1)))), (5, .int (v 71 (23 + (2 * e))))], [.int (v 79 (nI e).toNatClampNeg), .int ((v 75 (5 + e)) &&& (((1 : Int32) <<< ((zr_mhighest (v 75 (5 + e))) &&& 31)) ^^^ (-1)))])) (h' := zH v w t) rfl (by first | exact zk_inN (by omega) (by decide) | decide) ?_
          rw [nI_clamp (show e < 2 ^ 31 by omega)]
          refine zk_T.adv 3 (f' := (79, [(0, .ref 69), (1, .ref 76), (2, .int (nI e)), (3, .int y), (4, .int ((v 75 (5 + e)) &&& (((1 : Int32) <<< ((zr_mhighest (v 75 (5 + e))) &&& 31)) ^^^ (-1)))), (5, .int (v 71 (23 + (2 * e))))], [.int (((v 75 (5 + e)) &&& (((1 : Int32) <<< ((zr_mhighest (v 75 (5 + e))) &&& 31)) ^^^ (-1))) &&& ((v 79 e) ^^^ (-1)))])) (h' := zH v w t) rfl ?_
          exact zk_T.rt rfl rfl (by simp only [zr_moutOf, if_neg c1, if_neg c2, if_pos c6, if_neg c7])
      · have c6 : ¬ ((v 71 (23 + (2 * e))) = 1) := of_decide_eq_false c6
        refine zk_T.adv 4 (f' := (75, [(0, .ref 69), (1, .ref 76), (2, .int (nI e)), (3, .int y), (4, .int (v 75 (5 + e))), (5, .int (v 71 (23 + (2 * e))))], [.int (nI e), .ref 80, .int (v 75 (5 + e))])) (h' := zH v w t) rfl ?_
        refine zk_T.ob (f' := (76, [(0, .ref 69), (1, .ref 76), (2, .int (nI e)), (3, .int y), (4, .int (v 75 (5 + e))), (5, .int (v 71 (23 + (2 * e))))], [.int (v 79 (nI e).toNatClampNeg), .int (v 75 (5 + e))])) (h' := zH v w t) rfl (by first | exact zk_inN (by omega) (by decide) | decide) ?_
        rw [nI_clamp (show e < 2 ^ 31 by omega)]
        refine zk_T.adv 3 (f' := (79, [(0, .ref 69), (1, .ref 76), (2, .int (nI e)), (3, .int y), (4, .int (v 75 (5 + e))), (5, .int (v 71 (23 + (2 * e))))], [.int ((v 75 (5 + e)) &&& ((v 79 e) ^^^ (-1)))])) (h' := zH v w t) rfl ?_
        exact zk_T.rt rfl rfl (by simp only [zr_moutOf, if_neg c1, if_neg c2, if_neg c6])
/-- BasketKeepModel.strikeOn -/
theorem zs_mstBS (d a : Nat) (hd : d < 8) (ha : a < 4) (hB : v 75 (10 + a) = 0) : zk_Cr zk_mt zk_ex Ls xs 209 [.ref 69, .ref 76, .int (nI d), .int (nI a)] (zH v w t) (none, zH (zb (zb (zb (zb (zb v 68 (upd (v 68) 26 ((zr_mstB (v 71) (v 75) (v 79) (v 68 26) (v 80) (v 81) (v 82) d a).2.1))) 75 ((zr_mstB (v 71) (v 75) (v 79) (v 68 26) (v 80) (v 81) (v 82) d a).1)) 80 ((zr_mstB (v 71) (v 75) (v 79) (v 68 26) (v 80) (v 81) (v 82) d a).2.2.1)) 81 ((zr_mstB (v 71) (v 75) (v 79) (v 68 26) (v 80) (v 81) (v 82) d a).2.2.2.1)) 82 ((zr_mstB (v 71) (v 75) (v 79) (v 68 26) (v 80) (v 81) (v 82) d a).2.2.2.2)) w t) := by
  refine zk_Cr.of (K := zm_209) rfl rfl rfl ?_
  show zk_T zk_mt zk_ex Ls xs zm_209 (0, [(0, .ref 69), (1, .ref 76), (2, .int (nI d)), (3, .int (nI a))], []) (zH v w t) _
  refine zk_T.adv 4 (f' := (5, [(0, .ref 69), (1, .ref 76), (2, .int (nI d)), (3, .int (nI a))], [.int (10 + (nI a)), .ref 76])) (h' := zH v w t) rfl ?_
  rw [show 10 + (nI a) = nI (10 + a) from nI_add 10 a]
  refine zk_T.ob (f' := (6, [(0, .ref 69), (1, .ref 76), (2, .int (nI d)), (3, .int (nI a))], [.int (v 75 (nI (10 + a)).toNatClampNeg)])) (h' := zH v w t) rfl (by first | exact zk_inN (by omega) (by decide) | decide) ?_
  rw [nI_clamp (show (10 + a) < 2 ^ 31 by omega)]
  rw [hB]
  refine zk_T.adv 4 (f' := (12, [(0, .ref 69), (1, .ref 76), (2, .int (nI d)), (3, .int (nI a)), (4, .int (-1))], [.int (-1)])) (h' := zH v w t) rfl ?_
  refine zk_T.br (f1 := (65, [(0, .ref 69), (1, .ref 76), (2, .int (nI d)), (3, .int (nI a)), (4, .int (-1))], [])) (f2 := (15, [(0, .ref 69), (1, .ref 76), (2, .int (nI d)), (3, .int (nI a)), (4, .int (-1))], [])) rfl (fun c1 => ?_) (fun c1 => absurd (by decide) (of_decide_eq_false c1))
  refine zk_T.adv 6 (f' := (74, [(0, .ref 69), (1, .ref 76), (2, .int (nI d)), (3, .int (nI a)), (4, .int (-1))], [.int (2 * (nI a)), .int 33, .ref 72])) (h' := zH v w t) rfl ?_
  rw [show 2 * (nI a) = nI (2 * a) from pk_mul 2 a]
  refine zk_T.adv 1 (f' := (75, [(0, .ref 69), (1, .ref 76), (2, .int (nI d)), (3, .int (nI a)), (4, .int (-1))], [.int (33 + (nI (2 * a))), .ref 72])) (h' := zH v w t) rfl ?_
  rw [show 33 + (nI (2 * a)) = nI (33 + (2 * a)) from nI_add 33 (2 * a)]
  refine zk_T.adv 2 (f' := (77, [(0, .ref 69), (1, .ref 76), (2, .int (nI d)), (3, .int (nI a)), (4, .int (-1))], [.int ((nI (33 + (2 * a))) + 1), .ref 72])) (h' := zH v w t) rfl ?_
  rw [show (nI (33 + (2 * a))) + 1 = nI ((33 + (2 * a)) + 1) from nI_add (33 + (2 * a)) 1]
  refine zk_T.ob (f' := (78, [(0, .ref 69), (1, .ref 76), (2, .int (nI d)), (3, .int (nI a)), (4, .int (-1))], [.int (v 71 (nI ((33 + (2 * a)) + 1)).toNatClampNeg)])) (h' := zH v w t) rfl (by first | exact zk_inN (by omega) (by decide) | decide) ?_
  rw [nI_clamp (show ((33 + (2 * a)) + 1) < 2 ^ 31 by omega)]
  refine zk_T.adv 1 (f' := (79, [(0, .ref 69), (1, .ref 76), (2, .int (nI d)), (3, .int (nI a)), (4, .int (-1))], [.int (nI d), .int (v 71 ((33 + (2 * a)) + 1))])) (h' := zH v w t) rfl ?_
  refine zk_T.cl (v := some (.int (zr_mhasBit (v 71 ((33 + (2 * a)) + 1)) (nI d)))) (h' := zH v w t) rfl (zs_mhasBit (v 71 ((33 + (2 * a)) + 1)) (nI d)) ?_
  show zk_T zk_mt zk_ex Ls xs zm_209 (82, [(0, .ref 69), (1, .ref 76), (2, .int (nI d)), (3, .int (nI a)), (4, .int (-1))], [.int (zr_mhasBit (v 71 ((33 + (2 * a)) + 1)) (nI d))]) (zH v w t) _
  refine zk_T.br (f1 := (122, [(0, .ref 69), (1, .ref 76), (2, .int (nI d)), (3, .int (nI a)), (4, .int (-1))], [])) (f2 := (85, [(0, .ref 69), (1, .ref 76), (2, .int (nI d)), (3, .int (nI a)), (4, .int (-1))], [])) rfl (fun c2 => ?_) (fun c2 => ?_)
  · have c2 : (zr_mhasBit (v 71 ((33 + (2 * a)) + 1)) (nI d)) = 0 := of_decide_eq_true c2
    exact zk_T.rt rfl rfl (by simp only [zr_mstB, if_pos c2] <;> rfl)
  · have c2 : ¬ ((zr_mhasBit (v 71 ((33 + (2 * a)) + 1)) (nI d)) = 0) := of_decide_eq_false c2
    refine zk_T.adv 3 (f' := (89, [(0, .ref 69), (1, .ref 76), (2, .int (nI d)), (3, .int (nI a)), (4, .int (-1))], [.int 14, .ref 76, .int 14, .ref 76])) (h' := zH v w t) rfl ?_
    refine zk_T.ob (f' := (90, [(0, .ref 69), (1, .ref 76), (2, .int (nI d)), (3, .int (nI a)), (4, .int (-1))], [.int (v 75 (14 : Int32).toNatClampNeg), .int 14, .ref 76])) (h' := zH v w t) rfl rfl ?_
    show zk_T zk_mt zk_ex Ls xs zm_209 (90, [(0, .ref 69), (1, .ref 76), (2, .int (nI d)), (3, .int (nI a)), (4, .int (-1))], [.int (v 75 14), .int 14, .ref 76]) (zH v w t) _
    refine zk_T.adv 4 (f' := (94, [(0, .ref 69), (1, .ref 76), (2, .int (nI d)), (3, .int (nI a)), (4, .int (-1))], [.int ((v 75 14) ||| ((1 : Int32) <<< ((nI a) &&& 31))), .int 14, .ref 76])) (h' := zH v w t) rfl ?_
    refine zk_T.ob (f' := (95, [(0, .ref 69), (1, .ref 76), (2, .int (nI d)), (3, .int (nI a)), (4, .int (-1))], [])) (h' := zH (zb v 75 (upd (v 75) (14 : Int32).toNatClampNeg ((v 75 14) ||| ((1 : Int32) <<< ((nI a) &&& 31))))) w t) rfl rfl ?_
    show zk_T zk_mt zk_ex Ls xs zm_209 (95, [(0, .ref 69), (1, .ref 76), (2, .int (nI d)), (3, .int (nI a)), (4, .int (-1))], []) (zH (zb v 75 (upd (v 75) 14 ((v 75 14) ||| ((1 : Int32) <<< ((nI a) &&& 31))))) w t) _
    refine zk_T.adv 4 (f' := (101, [(0, .ref 69), (1, .ref 76), (2, .int (nI d)), (3, .int (nI a)), (4, .int (-1))], [.int (nI d), .ref 81, .int (nI d), .ref 81])) (h' := zH (zb v 75 (upd (v 75) 14 ((v 75 14) ||| ((1 : Int32) <<< ((nI a) &&& 31))))) w t) rfl ?_
    refine zk_T.ob (f' := (102, [(0, .ref 69), (1, .ref 76), (2, .int (nI d)), (3, .int (nI a)), (4, .int (-1))], [.int (v 80 (nI d).toNatClampNeg), .int (nI d), .ref 81])) (h' := zH (zb v 75 (upd (v 75) 14 ((v 75 14) ||| ((1 : Int32) <<< ((nI a) &&& 31))))) w t) rfl (by first | exact zk_inN (by omega) (by decide) | decide) ?_
    rw [nI_clamp (show d < 2 ^ 31 by omega)]
    refine zk_T.adv 6 (f' := (111, [(0, .ref 69), (1, .ref 76), (2, .int (nI d)), (3, .int (nI a)), (4, .int (-1))], [.int (2 * (nI a)), .int 33, .ref 72, .int (v 80 d), .int (nI d), .ref 81])) (h' := zH (zb v 75 (upd (v 75) 14 ((v 75 14) ||| ((1 : Int32) <<< ((nI a) &&& 31))))) w t) rfl ?_
    rw [show 2 * (nI a) = nI (2 * a) from pk_mul 2 a]
    refine zk_T.adv 1 (f' := (112, [(0, .ref 69), (1, .ref 76), (2, .int (nI d)), (3, .int (nI a)), (4, .int (-1))], [.int (33 + (nI (2 * a))), .ref 72, .int (v 80 d), .int (nI d), .ref 81])) (h' := zH (zb v 75 (upd (v 75) 14 ((v 75 14) ||| ((1 : Int32) <<< ((nI a) &&& 31))))) w t) rfl ?_
    rw [show 33 + (nI (2 * a)) = nI (33 + (2 * a)) from nI_add 33 (2 * a)]
    refine zk_T.ob (f' := (113, [(0, .ref 69), (1, .ref 76), (2, .int (nI d)), (3, .int (nI a)), (4, .int (-1))], [.int (v 71 (nI (33 + (2 * a))).toNatClampNeg), .int (v 80 d), .int (nI d), .ref 81])) (h' := zH (zb v 75 (upd (v 75) 14 ((v 75 14) ||| ((1 : Int32) <<< ((nI a) &&& 31))))) w t) rfl (by first | exact zk_inN (by omega) (by decide) | decide) ?_
    rw [nI_clamp (show (33 + (2 * a)) < 2 ^ 31 by omega)]
    refine zk_T.adv 1 (f' := (114, [(0, .ref 69), (1, .ref 76), (2, .int (nI d)), (3, .int (nI a)), (4, .int (-1))], [.int ((v 80 d) + (v 71 (33 + (2 * a)))), .int (nI d), .ref 81])) (h' := zH (zb v 75 (upd (v 75) 14 ((v 75 14) ||| ((1 : Int32) <<< ((nI a) &&& 31))))) w t) rfl ?_
    refine zk_T.ob (f' := (115, [(0, .ref 69), (1, .ref 76), (2, .int (nI d)), (3, .int (nI a)), (4, .int (-1))], [])) (h' := zH (zb (zb v 75 (upd (v 75) 14 ((v 75 14) ||| ((1 : Int32) <<< ((nI a) &&& 31))))) 80 (upd (v 80) (nI d).toNatClampNeg ((v 80 d) + (v 71 (33 + (2 * a)))))) w t) rfl (by first | exact zk_inN (by omega) (by decide) | decide) ?_
    rw [nI_clamp (show d < 2 ^ 31 by omega)]
    refine zk_T.adv 4 (f' := (121, [(0, .ref 69), (1, .ref 76), (2, .int (nI d)), (3, .int (nI a)), (4, .int (-1))], [.int (nI d), .int (nI a), .ref 82])) (h' := zH (zb (zb v 75 (upd (v 75) 14 ((v 75 14) ||| ((1 : Int32) <<< ((nI a) &&& 31))))) 80 (upd (v 80) d ((v 80 d) + (v 71 (33 + (2 * a)))))) w t) rfl ?_
    refine zk_T.ob (f' := (122, [(0, .ref 69), (1, .ref 76), (2, .int (nI d)), (3, .int (nI a)), (4, .int (-1))], [])) (h' := zH (zb (zb (zb v 75 (upd (v 75) 14 ((v 75 14) ||| ((1 : Int32) <<< ((nI a) &&& 31))))) 80 (upd (v 80) d ((v 80 d) + (v 71 (33 + (2 * a)))))) 81 (upd (v 81) (nI a).toNatClampNeg (nI d))) w t) rfl (by first | exact zk_inN (by omega) (by decide) | decide) ?_
    rw [nI_clamp (show a < 2 ^ 31 by omega)]
    exact zk_T.rt rfl rfl (by simp only [zr_mstB, if_neg c2] <;> rfl)
/-- BasketKeepModel.strikeOn -/
theorem zs_mstIS (d a e : Nat) (hd : d < 8) (ha : a < 4) (he : e < 5) (hI : v 75 (10 + a) = nI (e + 1)) : zk_Cr zk_mt zk_ex Ls xs 209 [.ref 69, .ref 76, .int (nI d), .int (nI a)] (zH v w t) (none, zH (zb (zb (zb (zb (zb v 68 (upd (v 68) 26 ((zr_mstI (v 71) (v 75) (v 79) (v 68 26) (v 80) (v 81) (v 82) d a e).2.1))) 75 ((zr_mstI (v 71) (v 75) (v 79) (v 68 26) (v 80) (v 81) (v 82) d a e).1)) 80 ((zr_mstI (v 71) (v 75) (v 79) (v 68 26) (v 80) (v 81) (v 82) d a e).2.2.1)) 81 ((zr_mstI (v 71) (v 75) (v 79) (v 68 26) (v 80) (v 81) (v 82) d a e).2.2.2.1)) 82 ((zr_mstI (v 71) (v 75) (v 79) (v 68 26) (v 80) (v 81) (v 82) d a e).2.2.2.2)) w t) := by
  refine zk_Cr.of (K := zm_209) rfl rfl rfl ?_
  show zk_T zk_mt zk_ex Ls xs zm_209 (0, [(0, .ref 69), (1, .ref 76), (2, .int (nI d)), (3, .int (nI a))], []) (zH v w t) _
  refine zk_T.adv 4 (f' := (5, [(0, .ref 69), (1, .ref 76), (2, .int (nI d)), (3, .int (nI a))], [.int (10 + (nI a)), .ref 76])) (h' := zH v w t) rfl ?_
  rw [show 10 + (nI a) = nI (10 + a) from nI_add 10 a]
  refine zk_T.ob (f' := (6, [(0, .ref 69), (1, .ref 76), (2, .int (nI d)), (3, .int (nI a))], [.int (v 75 (nI (10 + a)).toNatClampNeg)])) (h' := zH v w t) rfl (by first | exact zk_inN (by omega) (by decide) | decide) ?_
  rw [nI_clamp (show (10 + a) < 2 ^ 31 by omega)]
  rw [hI]
  refine zk_T.adv 2 (f' := (8, [(0, .ref 69), (1, .ref 76), (2, .int (nI d)), (3, .int (nI a))], [.int ((nI (e + 1)) - 1)])) (h' := zH v w t) rfl ?_
  rw [show (nI (e + 1)) - 1 = nI e from nI_pred e]
  refine zk_T.adv 2 (f' := (12, [(0, .ref 69), (1, .ref 76), (2, .int (nI d)), (3, .int (nI a)), (4, .int (nI e))], [.int (nI e)])) (h' := zH v w t) rfl ?_
  refine zk_T.br (f1 := (65, [(0, .ref 69), (1, .ref 76), (2, .int (nI d)), (3, .int (nI a)), (4, .int (nI e))], [])) (f2 := (15, [(0, .ref 69), (1, .ref 76), (2, .int (nI d)), (3, .int (nI a)), (4, .int (nI e))], [])) rfl (fun c1 => absurd (of_decide_eq_true c1) (nI_pos (by omega))) (fun c1 => ?_)
  refine zk_T.adv 5 (f' := (22, [(0, .ref 69), (1, .ref 76), (2, .int (nI d)), (3, .int (nI a)), (4, .int (nI e))], [.int 15, .ref 76, .int (nI e), .ref 76, .ref 69])) (h' := zH v w t) rfl ?_
  refine zk_T.ob (f' := (23, [(0, .ref 69), (1, .ref 76), (2, .int (nI d)), (3, .int (nI a)), (4, .int (nI e))], [.int (v 75 (15 : Int32).toNatClampNeg), .int (nI e), .ref 76, .ref 69])) (h' := zH v w t) rfl rfl ?_
  show zk_T zk_mt zk_ex Ls xs zm_209 (23, [(0, .ref 69), (1, .ref 76), (2, .int (nI d)), (3, .int (nI a)), (4, .int (nI e))], [.int (v 75 15), .int (nI e), .ref 76, .ref 69]) (zH v w t) _
  refine zk_T.cl (v := some (.int (zr_moutOf (v 71) (v 75) (v 79) e (v 75 15)))) (h' := zH v w t) rfl (zs_moutOfS (v := v) e (by omega) (v 75 15)) ?_
  show zk_T zk_mt zk_ex Ls xs zm_209 (26, [(0, .ref 69), (1, .ref 76), (2, .int (nI d)), (3, .int (nI a)), (4, .int (nI e))], [.int (zr_moutOf (v 71) (v 75) (v 79) e (v 75 15))]) (zH v w t) _
  refine zk_T.adv 1 (f' := (27, [(0, .ref 69), (1, .ref 76), (2, .int (nI d)), (3, .int (nI a)), (4, .int (nI e))], [.int (nI d), .int (zr_moutOf (v 71) (v 75) (v 79) e (v 75 15))])) (h' := zH v w t) rfl ?_
  refine zk_T.cl (v := some (.int (zr_mhasBit (zr_moutOf (v 71) (v 75) (v 79) e (v 75 15)) (nI d)))) (h' := zH v w t) rfl (zs_mhasBit (zr_moutOf (v 71) (v 75) (v 79) e (v 75 15)) (nI d)) ?_
  show zk_T zk_mt zk_ex Ls xs zm_209 (30, [(0, .ref 69), (1, .ref 76), (2, .int (nI d)), (3, .int (nI a)), (4, .int (nI e))], [.int (zr_mhasBit (zr_moutOf (v 71) (v 75) (v 79) e (v 75 15)) (nI d))]) (zH v w t) _
  refine zk_T.br (f1 := (65, [(0, .ref 69), (1, .ref 76), (2, .int (nI d)), (3, .int (nI a)), (4, .int (nI e))], [])) (f2 := (33, [(0, .ref 69), (1, .ref 76), (2, .int (nI d)), (3, .int (nI a)), (4, .int (nI e))], [])) rfl (fun c2 => ?_) (fun c2 => ?_)
  · have c2 : (zr_mhasBit (zr_moutOf (v 71) (v 75) (v 79) e (v 75 15)) (nI d)) = 0 := of_decide_eq_true c2
    refine zk_T.adv 6 (f' := (74, [(0, .ref 69), (1, .ref 76), (2, .int (nI d)), (3, .int (nI a)), (4, .int (nI e))], [.int (2 * (nI a)), .int 33, .ref 72])) (h' := zH v w t) rfl ?_
    rw [show 2 * (nI a) = nI (2 * a) from pk_mul 2 a]
    refine zk_T.adv 1 (f' := (75, [(0, .ref 69), (1, .ref 76), (2, .int (nI d)), (3, .int (nI a)), (4, .int (nI e))], [.int (33 + (nI (2 * a))), .ref 72])) (h' := zH v w t) rfl ?_
    rw [show 33 + (nI (2 * a)) = nI (33 + (2 * a)) from nI_add 33 (2 * a)]
    refine zk_T.adv 2 (f' := (77, [(0, .ref 69), (1, .ref 76), (2, .int (nI d)), (3, .int (nI a)), (4, .int (nI e))], [.int ((nI (33 + (2 * a))) + 1), .ref 72])) (h' := zH v w t) rfl ?_
    rw [show (nI (33 + (2 * a))) + 1 = nI ((33 + (2 * a)) + 1) from nI_add (33 + (2 * a)) 1]
    refine zk_T.ob (f' := (78, [(0, .ref 69), (1, .ref 76), (2, .int (nI d)), (3, .int (nI a)), (4, .int (nI e))], [.int (v 71 (nI ((33 + (2 * a)) + 1)).toNatClampNeg)])) (h' := zH v w t) rfl (by first | exact zk_inN (by omega) (by decide) | decide) ?_
    rw [nI_clamp (show ((33 + (2 * a)) + 1) < 2 ^ 31 by omega)]
    refine zk_T.adv 1 (f' := (79, [(0, .ref 69), (1, .ref 76), (2, .int (nI d)), (3, .int (nI a)), (4, .int (nI e))], [.int (nI d), .int (v 71 ((33 + (2 * a)) + 1))])) (h' := zH v w t) rfl ?_
    refine zk_T.cl (v := some (.int (zr_mhasBit (v 71 ((33 + (2 * a)) + 1)) (nI d)))) (h' := zH v w t) rfl (zs_mhasBit (v 71 ((33 + (2 * a)) + 1)) (nI d)) ?_
    show zk_T zk_mt zk_ex Ls xs zm_209 (82, [(0, .ref 69), (1, .ref 76), (2, .int (nI d)), (3, .int (nI a)), (4, .int (nI e))], [.int (zr_mhasBit (v 71 ((33 + (2 * a)) + 1)) (nI d))]) (zH v w t) _
    refine zk_T.br (f1 := (122, [(0, .ref 69), (1, .ref 76), (2, .int (nI d)), (3, .int (nI a)), (4, .int (nI e))], [])) (f2 := (85, [(0, .ref 69), (1, .ref 76), (2, .int (nI d)), (3, .int (nI a)), (4, .int (nI e))], [])) rfl (fun c3 => ?_) (fun c3 => ?_)
    · have c3 : (zr_mhasBit (v 71 ((33 + (2 * a)) + 1)) (nI d)) = 0 := of_decide_eq_true c3
      exact zk_T.rt rfl rfl (by simp only [zr_mstI, if_pos c2, if_pos c3] <;> rfl)
    · have c3 : ¬ ((zr_mhasBit (v 71 ((33 + (2 * a)) + 1)) (nI d)) = 0) := of_decide_eq_false c3
      refine zk_T.adv 3 (f' := (89, [(0, .ref 69), (1, .ref 76), (2, .int (nI d)), (3, .int (nI a)), (4, .int (nI e))], [.int 14, .ref 76, .int 14, .ref 76])) (h' := zH v w t) rfl ?_
      refine zk_T.ob (f' := (90, [(0, .ref 69), (1, .ref 76), (2, .int (nI d)), (3, .int (nI a)), (4, .int (nI e))], [.int (v 75 (14 : Int32).toNatClampNeg), .int 14, .ref 76])) (h' := zH v w t) rfl rfl ?_
      show zk_T zk_mt zk_ex Ls xs zm_209 (90, [(0, .ref 69), (1, .ref 76), (2, .int (nI d)), (3, .int (nI a)), (4, .int (nI e))], [.int (v 75 14), .int 14, .ref 76]) (zH v w t) _
      refine zk_T.adv 4 (f' := (94, [(0, .ref 69), (1, .ref 76), (2, .int (nI d)), (3, .int (nI a)), (4, .int (nI e))], [.int ((v 75 14) ||| ((1 : Int32) <<< ((nI a) &&& 31))), .int 14, .ref 76])) (h' := zH v w t) rfl ?_
      refine zk_T.ob (f' := (95, [(0, .ref 69), (1, .ref 76), (2, .int (nI d)), (3, .int (nI a)), (4, .int (nI e))], [])) (h' := zH (zb v 75 (upd (v 75) (14 : Int32).toNatClampNeg ((v 75 14) ||| ((1 : Int32) <<< ((nI a) &&& 31))))) w t) rfl rfl ?_
      show zk_T zk_mt zk_ex Ls xs zm_209 (95, [(0, .ref 69), (1, .ref 76), (2, .int (nI d)), (3, .int (nI a)), (4, .int (nI e))], []) (zH (zb v 75 (upd (v 75) 14 ((v 75 14) ||| ((1 : Int32) <<< ((nI a) &&& 31))))) w t) _
      refine zk_T.adv 4 (f' := (101, [(0, .ref 69), (1, .ref 76), (2, .int (nI d)), (3, .int (nI a)), (4, .int (nI e))], [.int (nI d), .ref 81, .int (nI d), .ref 81])) (h' := zH (zb v 75 (upd (v 75) 14 ((v 75 14) ||| ((1 : Int32) <<< ((nI a) &&& 31))))) w t) rfl ?_
      refine zk_T.ob (f' := (102, [(0, .ref 69), (1, .ref 76), (2, .int (nI d)), (3, .int (nI a)), (4, .int (nI e))], [.int (v 80 (nI d).toNatClampNeg), .int (nI d), .ref 81])) (h' := zH (zb v 75 (upd (v 75) 14 ((v 75 14) ||| ((1 : Int32) <<< ((nI a) &&& 31))))) w t) rfl (by first | exact zk_inN (by omega) (by decide) | decide) ?_
      rw [nI_clamp (show d < 2 ^ 31 by omega)]
      refine zk_T.adv 6 (f' := (111, [(0, .ref 69), (1, .ref 76), (2, .int (nI d)), (3, .int (nI a)), (4, .int (nI e))], [.int (2 * (nI a)), .int 33, .ref 72, .int (v 80 d), .int (nI d), .ref 81])) (h' := zH (zb v 75 (upd (v 75) 14 ((v 75 14) ||| ((1 : Int32) <<< ((nI a) &&& 31))))) w t) rfl ?_
      rw [show 2 * (nI a) = nI (2 * a) from pk_mul 2 a]
      refine zk_T.adv 1 (f' := (112, [(0, .ref 69), (1, .ref 76), (2, .int (nI d)), (3, .int (nI a)), (4, .int (nI e))], [.int (33 + (nI (2 * a))), .ref 72, .int (v 80 d), .int (nI d), .ref 81])) (h' := zH (zb v 75 (upd (v 75) 14 ((v 75 14) ||| ((1 : Int32) <<< ((nI a) &&& 31))))) w t) rfl ?_
      rw [show 33 + (nI (2 * a)) = nI (33 + (2 * a)) from nI_add 33 (2 * a)]
      refine zk_T.ob (f' := (113, [(0, .ref 69), (1, .ref 76), (2, .int (nI d)), (3, .int (nI a)), (4, .int (nI e))], [.int (v 71 (nI (33 + (2 * a))).toNatClampNeg), .int (v 80 d), .int (nI d), .ref 81])) (h' := zH (zb v 75 (upd (v 75) 14 ((v 75 14) ||| ((1 : Int32) <<< ((nI a) &&& 31))))) w t) rfl (by first | exact zk_inN (by omega) (by decide) | decide) ?_
      rw [nI_clamp (show (33 + (2 * a)) < 2 ^ 31 by omega)]
      refine zk_T.adv 1 (f' := (114, [(0, .ref 69), (1, .ref 76), (2, .int (nI d)), (3, .int (nI a)), (4, .int (nI e))], [.int ((v 80 d) + (v 71 (33 + (2 * a)))), .int (nI d), .ref 81])) (h' := zH (zb v 75 (upd (v 75) 14 ((v 75 14) ||| ((1 : Int32) <<< ((nI a) &&& 31))))) w t) rfl ?_
      refine zk_T.ob (f' := (115, [(0, .ref 69), (1, .ref 76), (2, .int (nI d)), (3, .int (nI a)), (4, .int (nI e))], [])) (h' := zH (zb (zb v 75 (upd (v 75) 14 ((v 75 14) ||| ((1 : Int32) <<< ((nI a) &&& 31))))) 80 (upd (v 80) (nI d).toNatClampNeg ((v 80 d) + (v 71 (33 + (2 * a)))))) w t) rfl (by first | exact zk_inN (by omega) (by decide) | decide) ?_
      rw [nI_clamp (show d < 2 ^ 31 by omega)]
      refine zk_T.adv 4 (f' := (121, [(0, .ref 69), (1, .ref 76), (2, .int (nI d)), (3, .int (nI a)), (4, .int (nI e))], [.int (nI d), .int (nI a), .ref 82])) (h' := zH (zb (zb v 75 (upd (v 75) 14 ((v 75 14) ||| ((1 : Int32) <<< ((nI a) &&& 31))))) 80 (upd (v 80) d ((v 80 d) + (v 71 (33 + (2 * a)))))) w t) rfl ?_
      refine zk_T.ob (f' := (122, [(0, .ref 69), (1, .ref 76), (2, .int (nI d)), (3, .int (nI a)), (4, .int (nI e))], [])) (h' := zH (zb (zb (zb v 75 (upd (v 75) 14 ((v 75 14) ||| ((1 : Int32) <<< ((nI a) &&& 31))))) 80 (upd (v 80) d ((v 80 d) + (v 71 (33 + (2 * a)))))) 81 (upd (v 81) (nI a).toNatClampNeg (nI d))) w t) rfl (by first | exact zk_inN (by omega) (by decide) | decide) ?_
      rw [nI_clamp (show a < 2 ^ 31 by omega)]
      exact zk_T.rt rfl rfl (by simp only [zr_mstI, if_pos c2, if_neg c3] <;> rfl)
  · have c2 : ¬ ((zr_mhasBit (zr_moutOf (v 71) (v 75) (v 79) e (v 75 15)) (nI d)) = 0) := of_decide_eq_false c2
    refine zk_T.adv 3 (f' := (37, [(0, .ref 69), (1, .ref 76), (2, .int (nI d)), (3, .int (nI a)), (4, .int (nI e))], [.int (nI e), .ref 76, .int (nI e), .ref 76])) (h' := zH v w t) rfl ?_
    refine zk_T.ob (f' := (38, [(0, .ref 69), (1, .ref 76), (2, .int (nI d)), (3, .int (nI a)), (4, .int (nI e))], [.int (v 75 (nI e).toNatClampNeg), .int (nI e), .ref 76])) (h' := zH v w t) rfl (by first | exact zk_inN (by omega) (by decide) | decide) ?_
    rw [nI_clamp (show e < 2 ^ 31 by omega)]
    refine zk_T.adv 2 (f' := (40, [(0, .ref 69), (1, .ref 76), (2, .int (nI d)), (3, .int (nI a)), (4, .int (nI e))], [.int ((v 75 e) - 1), .int (nI e), .ref 76])) (h' := zH v w t) rfl ?_
    refine zk_T.ob (f' := (41, [(0, .ref 69), (1, .ref 76), (2, .int (nI d)), (3, .int (nI a)), (4, .int (nI e))], [])) (h' := zH (zb v 75 (upd (v 75) (nI e).toNatClampNeg ((v 75 e) - 1))) w t) rfl (by first | exact zk_inN (by omega) (by decide) | decide) ?_
    rw [nI_clamp (show e < 2 ^ 31 by omega)]
    refine zk_T.adv 10 (f' := (58, [(0, .ref 69), (1, .ref 76), (2, .int (nI d)), (3, .int (nI a)), (4, .int (nI e))], [.int (nI e), .ref 83, .int (nI e), .ref 83])) (h' := zH (zb (zb v 68 (upd (v 68) 26 ((v 68 26) + 1))) 75 (upd (v 75) e ((v 75 e) - 1))) w t) rfl ?_
    refine zk_T.ob (f' := (59, [(0, .ref 69), (1, .ref 76), (2, .int (nI d)), (3, .int (nI a)), (4, .int (nI e))], [.int (v 82 (nI e).toNatClampNeg), .int (nI e), .ref 83])) (h' := zH (zb (zb v 68 (upd (v 68) 26 ((v 68 26) + 1))) 75 (upd (v 75) e ((v 75 e) - 1))) w t) rfl (by first | exact zk_inN (by omega) (by decide) | decide) ?_
    rw [nI_clamp (show e < 2 ^ 31 by omega)]
    refine zk_T.adv 2 (f' := (61, [(0, .ref 69), (1, .ref 76), (2, .int (nI d)), (3, .int (nI a)), (4, .int (nI e))], [.int ((v 82 e) + 1), .int (nI e), .ref 83])) (h' := zH (zb (zb v 68 (upd (v 68) 26 ((v 68 26) + 1))) 75 (upd (v 75) e ((v 75 e) - 1))) w t) rfl ?_
    refine zk_T.ob (f' := (62, [(0, .ref 69), (1, .ref 76), (2, .int (nI d)), (3, .int (nI a)), (4, .int (nI e))], [])) (h' := zH (zb (zb (zb v 68 (upd (v 68) 26 ((v 68 26) + 1))) 75 (upd (v 75) e ((v 75 e) - 1))) 82 (upd (v 82) (nI e).toNatClampNeg ((v 82 e) + 1))) w t) rfl (by first | exact zk_inN (by omega) (by decide) | decide) ?_
    rw [nI_clamp (show e < 2 ^ 31 by omega)]
    refine zk_T.adv 1 (f' := (122, [(0, .ref 69), (1, .ref 76), (2, .int (nI d)), (3, .int (nI a)), (4, .int (nI e))], [])) (h' := zH (zb (zb (zb v 68 (upd (v 68) 26 ((v 68 26) + 1))) 75 (upd (v 75) e ((v 75 e) - 1))) 82 (upd (v 82) e ((v 82 e) + 1))) w t) rfl ?_
    exact zk_T.rt rfl rfl (by simp only [zr_mstI, if_neg c2] <;> rfl)
theorem zl_mygS (Gn : Nat) (hG : v 71 3 = nI Gn) (h4 : Gn ≤ 4) (sk : Int32) (d : Nat) (hd8 : d < 8) : ∀ (s : (Nat → Int32) × Int32 × (Nat → Int32) × (Nat → Int32) × (Nat → Int32)) (q : Option Value × zk_H), zk_lie Gn s.1 → zk_T zk_mt zk_ex Ls xs zm_217 ((fun (s : (Nat → Int32) × Int32 × (Nat → Int32) × (Nat → Int32) × (Nat → Int32)) => ((80, [(0, .ref 69), (1, .ref 76), (2, .int sk), (3, .int (nI d)), (4, .int (nI (0 + Gn)))], []) : zk_F)) (zf (zl_mygG (v 71) (v 79) d) Gn 0 s)) ((fun (s : (Nat → Int32) × Int32 × (Nat → Int32) × (Nat → Int32) × (Nat → Int32)) => zH (zb (zb (zb (zb (zb v 68 (upd (v 68) 26 s.2.1)) 75 s.1) 80 s.2.2.1) 81 s.2.2.2.1) 82 s.2.2.2.2) w t) (zf (zl_mygG (v 71) (v 79) d) Gn 0 s)) q → zk_T zk_mt zk_ex Ls xs zm_217 (43, [(0, .ref 69), (1, .ref 76), (2, .int sk), (3, .int (nI d)), (4, .int (nI 0))], []) (zH (zb (zb (zb (zb (zb v 68 (upd (v 68) 26 s.2.1)) 75 s.1) 80 s.2.2.1) 81 s.2.2.2.1) 82 s.2.2.2.2) w t) q := by
  intro s q hP0 hk
  refine zk_forK (M := zm_217) (fun j (s : (Nat → Int32) × Int32 × (Nat → Int32) × (Nat → Int32) × (Nat → Int32)) => (43, [(0, .ref 69), (1, .ref 76), (2, .int sk), (3, .int (nI d)), (4, .int (nI j))], [])) (fun _ (s : (Nat → Int32) × Int32 × (Nat → Int32) × (Nat → Int32) × (Nat → Int32)) => zH (zb (zb (zb (zb (zb v 68 (upd (v 68) 26 s.2.1)) 75 s.1) 80 s.2.2.1) 81 s.2.2.2.1) 82 s.2.2.2.2) w t) (zl_mygG (v 71) (v 79) d) (fun j (s : (Nat → Int32) × Int32 × (Nat → Int32) × (Nat → Int32) × (Nat → Int32)) => zk_lie Gn s.1) (fun (s : (Nat → Int32) × Int32 × (Nat → Int32) × (Nat → Int32) × (Nat → Int32)) => (80, [(0, .ref 69), (1, .ref 76), (2, .int sk), (3, .int (nI d)), (4, .int (nI (0 + Gn)))], [])) (fun (s : (Nat → Int32) × Int32 × (Nat → Int32) × (Nat → Int32) × (Nat → Int32)) => zH (zb (zb (zb (zb (zb v 68 (upd (v 68) 26 s.2.1)) 75 s.1) 80 s.2.2.1) 81 s.2.2.2.1) 82 s.2.2.2.2) w t) (Gn) 0 s (fun j s hj1 hj2 hp => by
    obtain ⟨row, ou, lt, lw, oo⟩ := s
    have hp : zk_lie Gn row := hp
    show zk_lie Gn (zl_mygG (v 71) (v 79) d j (row, ou, lt, lw, oo)).1
    unfold zl_mygG
    dsimp only
    split
    · split
      · exact zr_mstB_lie (slp := v 79) hp h4
      · rename_i hz
        rcases hp j (by omega) with hB | ⟨e, he, hI⟩
        · exact absurd hB hz
        · rw [hI, nI_clamp (show e + 1 < 2 ^ 31 by omega)]
          exact zr_mstI_lie hp h4 (by omega)
    · exact hp) (fun j s hj1 hj2 hp q hk => ?_) (fun s hp q hk => ?_) ?_ q hk
  · obtain ⟨row, ou, lt, lw, oo⟩ := s
    show zk_T zk_mt zk_ex Ls xs zm_217 (43, [(0, .ref 69), (1, .ref 76), (2, .int sk), (3, .int (nI d)), (4, .int (nI j))], []) (zH (zb (zb (zb (zb (zb v 68 (upd (v 68) 26 ou)) 75 row) 80 lt) 81 lw) 82 oo) w t) q
    have hp : zk_lie Gn row := hp
    refine zk_T.adv 4 (f' := (50, [(0, .ref 69), (1, .ref 76), (2, .int sk), (3, .int (nI d)), (4, .int (nI j))], [.int 3, .ref 72, .int (nI j)])) (h' := zH (zb (zb (zb (zb (zb v 68 (upd (v 68) 26 ou)) 75 row) 80 lt) 81 lw) 82 oo) w t) rfl ?_
    refine zk_T.ob (f' := (51, [(0, .ref 69), (1, .ref 76), (2, .int sk), (3, .int (nI d)), (4, .int (nI j))], [.int (v 71 (3 : Int32).toNatClampNeg), .int (nI j)])) (h' := zH (zb (zb (zb (zb (zb v 68 (upd (v 68) 26 ou)) 75 row) 80 lt) 81 lw) 82 oo) w t) rfl rfl ?_
    show zk_T zk_mt zk_ex Ls xs zm_217 (51, [(0, .ref 69), (1, .ref 76), (2, .int sk), (3, .int (nI d)), (4, .int (nI j))], [.int (v 71 3), .int (nI j)]) (zH (zb (zb (zb (zb (zb v 68 (upd (v 68) 26 ou)) 75 row) 80 lt) 81 lw) 82 oo) w t) _
    refine zk_T.br (f1 := (80, [(0, .ref 69), (1, .ref 76), (2, .int sk), (3, .int (nI d)), (4, .int (nI j))], [])) (f2 := (54, [(0, .ref 69), (1, .ref 76), (2, .int sk), (3, .int (nI d)), (4, .int (nI j))], [])) rfl (fun c1 => absurd (of_decide_eq_true c1) (by rw [show _ = nI Gn from hG]; exact nI_ge (show j < Gn by omega) (by omega))) (fun c1 => ?_)
    refine zk_T.adv 2 (f' := (57, [(0, .ref 69), (1, .ref 76), (2, .int sk), (3, .int (nI d)), (4, .int (nI j))], [.int 14, .ref 76])) (h' := zH (zb (zb (zb (zb (zb v 68 (upd (v 68) 26 ou)) 75 row) 80 lt) 81 lw) 82 oo) w t) rfl ?_
    refine zk_T.ob (f' := (58, [(0, .ref 69), (1, .ref 76), (2, .int sk), (3, .int (nI d)), (4, .int (nI j))], [.int (row (14 : Int32).toNatClampNeg)])) (h' := zH (zb (zb (zb (zb (zb v 68 (upd (v 68) 26 ou)) 75 row) 80 lt) 81 lw) 82 oo) w t) rfl rfl ?_
    show zk_T zk_mt zk_ex Ls xs zm_217 (58, [(0, .ref 69), (1, .ref 76), (2, .int sk), (3, .int (nI d)), (4, .int (nI j))], [.int (row 14)]) (zH (zb (zb (zb (zb (zb v 68 (upd (v 68) 26 ou)) 75 row) 80 lt) 81 lw) 82 oo) w t) _
    refine zk_T.adv 1 (f' := (60, [(0, .ref 69), (1, .ref 76), (2, .int sk), (3, .int (nI d)), (4, .int (nI j))], [.int (nI j), .int (row 14)])) (h' := zH (zb (zb (zb (zb (zb v 68 (upd (v 68) 26 ou)) 75 row) 80 lt) 81 lw) 82 oo) w t) rfl ?_
    refine zk_T.cl (v := some (.int (zr_mhasBit (row 14) (nI j)))) (h' := zH (zb (zb (zb (zb (zb v 68 (upd (v 68) 26 ou)) 75 row) 80 lt) 81 lw) 82 oo) w t) rfl (zs_mhasBit (row 14) (nI j)) ?_
    show zk_T zk_mt zk_ex Ls xs zm_217 (63, [(0, .ref 69), (1, .ref 76), (2, .int sk), (3, .int (nI d)), (4, .int (nI j))], [.int (zr_mhasBit (row 14) (nI j))]) (zH (zb (zb (zb (zb (zb v 68 (upd (v 68) 26 ou)) 75 row) 80 lt) 81 lw) 82 oo) w t) _
    refine zk_T.br (f1 := (66, [(0, .ref 69), (1, .ref 76), (2, .int sk), (3, .int (nI d)), (4, .int (nI j))], [])) (f2 := (74, [(0, .ref 69), (1, .ref 76), (2, .int sk), (3, .int (nI d)), (4, .int (nI j))], [])) rfl (fun c2 => ?_) (fun c2 => ?_)
    · have c2 : (zr_mhasBit (row 14) (nI j)) = 0 := of_decide_eq_true c2
      refine zk_T.adv 4 (f' := (71, [(0, .ref 69), (1, .ref 76), (2, .int sk), (3, .int (nI d)), (4, .int (nI j))], [.int (nI j), .int (nI d), .ref 76, .ref 69])) (h' := zH (zb (zb (zb (zb (zb v 68 (upd (v 68) 26 ou)) 75 row) 80 lt) 81 lw) 82 oo) w t) rfl ?_
      rcases hp j (show j < Gn by omega) with hB | ⟨e, he, hI⟩
      · refine zk_T.cl (v := none) (h' := zH (zb (zb (zb (zb (zb v 68 (upd (v 68) 26 ((zr_mstB (v 71) row (v 79) ou lt lw oo d j).2.1))) 75 ((zr_mstB (v 71) row (v 79) ou lt lw oo d j).1)) 80 ((zr_mstB (v 71) row (v 79) ou lt lw oo d j).2.2.1)) 81 ((zr_mstB (v 71) row (v 79) ou lt lw oo d j).2.2.2.1)) 82 ((zr_mstB (v 71) row (v 79) ou lt lw oo d j).2.2.2.2)) w t) rfl (zs_mstBS (v := (zb (zb (zb (zb (zb v 68 (upd (v 68) 26 ou)) 75 row) 80 lt) 81 lw) 82 oo)) d j hd8 (by omega) hB) ?_
        show zk_T zk_mt zk_ex Ls xs zm_217 (74, [(0, .ref 69), (1, .ref 76), (2, .int sk), (3, .int (nI d)), (4, .int (nI j))], []) (zH (zb (zb (zb (zb (zb v 68 (upd (v 68) 26 ((zr_mstB (v 71) row (v 79) ou lt lw oo d j).2.1))) 75 ((zr_mstB (v 71) row (v 79) ou lt lw oo d j).1)) 80 ((zr_mstB (v 71) row (v 79) ou lt lw oo d j).2.2.1)) 81 ((zr_mstB (v 71) row (v 79) ou lt lw oo d j).2.2.2.1)) 82 ((zr_mstB (v 71) row (v 79) ou lt lw oo d j).2.2.2.2)) w t) _
        refine zk_T.adv 2 (f' := (43, [(0, .ref 69), (1, .ref 76), (2, .int sk), (3, .int (nI d)), (4, .int ((nI j) + 1))], [])) (h' := zH (zb (zb (zb (zb (zb v 68 (upd (v 68) 26 ((zr_mstB (v 71) row (v 79) ou lt lw oo d j).2.1))) 75 ((zr_mstB (v 71) row (v 79) ou lt lw oo d j).1)) 80 ((zr_mstB (v 71) row (v 79) ou lt lw oo d j).2.2.1)) 81 ((zr_mstB (v 71) row (v 79) ou lt lw oo d j).2.2.2.1)) 82 ((zr_mstB (v 71) row (v 79) ou lt lw oo d j).2.2.2.2)) w t) rfl ?_
        rw [nI_1]
        simp only [zl_mygG, if_pos c2, if_pos hB] at hk
        exact hk
      · refine zk_T.cl (v := none) (h' := zH (zb (zb (zb (zb (zb v 68 (upd (v 68) 26 ((zr_mstI (v 71) row (v 79) ou lt lw oo d j e).2.1))) 75 ((zr_mstI (v 71) row (v 79) ou lt lw oo d j e).1)) 80 ((zr_mstI (v 71) row (v 79) ou lt lw oo d j e).2.2.1)) 81 ((zr_mstI (v 71) row (v 79) ou lt lw oo d j e).2.2.2.1)) 82 ((zr_mstI (v 71) row (v 79) ou lt lw oo d j e).2.2.2.2)) w t) rfl (zs_mstIS (v := (zb (zb (zb (zb (zb v 68 (upd (v 68) 26 ou)) 75 row) 80 lt) 81 lw) 82 oo)) d j e hd8 (by omega) he hI) ?_
        show zk_T zk_mt zk_ex Ls xs zm_217 (74, [(0, .ref 69), (1, .ref 76), (2, .int sk), (3, .int (nI d)), (4, .int (nI j))], []) (zH (zb (zb (zb (zb (zb v 68 (upd (v 68) 26 ((zr_mstI (v 71) row (v 79) ou lt lw oo d j e).2.1))) 75 ((zr_mstI (v 71) row (v 79) ou lt lw oo d j e).1)) 80 ((zr_mstI (v 71) row (v 79) ou lt lw oo d j e).2.2.1)) 81 ((zr_mstI (v 71) row (v 79) ou lt lw oo d j e).2.2.2.1)) 82 ((zr_mstI (v 71) row (v 79) ou lt lw oo d j e).2.2.2.2)) w t) _
        refine zk_T.adv 2 (f' := (43, [(0, .ref 69), (1, .ref 76), (2, .int sk), (3, .int (nI d)), (4, .int ((nI j) + 1))], [])) (h' := zH (zb (zb (zb (zb (zb v 68 (upd (v 68) 26 ((zr_mstI (v 71) row (v 79) ou lt lw oo d j e).2.1))) 75 ((zr_mstI (v 71) row (v 79) ou lt lw oo d j e).1)) 80 ((zr_mstI (v 71) row (v 79) ou lt lw oo d j e).2.2.1)) 81 ((zr_mstI (v 71) row (v 79) ou lt lw oo d j e).2.2.2.1)) 82 ((zr_mstI (v 71) row (v 79) ou lt lw oo d j e).2.2.2.2)) w t) rfl ?_
        rw [nI_1]
        simp only [zl_mygG, if_pos c2, hI, if_neg (nI_ne0 (show 0 < e + 1 by omega) (show e + 1 < 2 ^ 31 by omega)), nI_clamp (show e + 1 < 2 ^ 31 by omega), Nat.add_sub_cancel] at hk
        exact hk
    · have c2 : ¬ ((zr_mhasBit (row 14) (nI j)) = 0) := of_decide_eq_false c2
      refine zk_T.adv 2 (f' := (43, [(0, .ref 69), (1, .ref 76), (2, .int sk), (3, .int (nI d)), (4, .int ((nI j) + 1))], [])) (h' := zH (zb (zb (zb (zb (zb v 68 (upd (v 68) 26 ou)) 75 row) 80 lt) 81 lw) 82 oo) w t) rfl ?_
      rw [nI_1]
      simp only [zl_mygG, if_neg c2] at hk
      exact hk
  · obtain ⟨row, ou, lt, lw, oo⟩ := s
    show zk_T zk_mt zk_ex Ls xs zm_217 (43, [(0, .ref 69), (1, .ref 76), (2, .int sk), (3, .int (nI d)), (4, .int (nI (0 + Gn)))], []) (zH (zb (zb (zb (zb (zb v 68 (upd (v 68) 26 ou)) 75 row) 80 lt) 81 lw) 82 oo) w t) q
    have hp : zk_lie Gn row := hp
    refine zk_T.adv 4 (f' := (50, [(0, .ref 69), (1, .ref 76), (2, .int sk), (3, .int (nI d)), (4, .int (nI (0 + Gn)))], [.int 3, .ref 72, .int (nI (0 + Gn))])) (h' := zH (zb (zb (zb (zb (zb v 68 (upd (v 68) 26 ou)) 75 row) 80 lt) 81 lw) 82 oo) w t) rfl ?_
    refine zk_T.ob (f' := (51, [(0, .ref 69), (1, .ref 76), (2, .int sk), (3, .int (nI d)), (4, .int (nI (0 + Gn)))], [.int (v 71 (3 : Int32).toNatClampNeg), .int (nI (0 + Gn))])) (h' := zH (zb (zb (zb (zb (zb v 68 (upd (v 68) 26 ou)) 75 row) 80 lt) 81 lw) 82 oo) w t) rfl rfl ?_
    show zk_T zk_mt zk_ex Ls xs zm_217 (51, [(0, .ref 69), (1, .ref 76), (2, .int sk), (3, .int (nI d)), (4, .int (nI (0 + Gn)))], [.int (v 71 3), .int (nI (0 + Gn))]) (zH (zb (zb (zb (zb (zb v 68 (upd (v 68) 26 ou)) 75 row) 80 lt) 81 lw) 82 oo) w t) _
    refine zk_T.br (f1 := (80, [(0, .ref 69), (1, .ref 76), (2, .int sk), (3, .int (nI d)), (4, .int (nI (0 + Gn)))], [])) (f2 := (54, [(0, .ref 69), (1, .ref 76), (2, .int sk), (3, .int (nI d)), (4, .int (nI (0 + Gn)))], [])) rfl (fun c1 => ?_) (fun c1 => absurd (by rw [show _ = nI Gn from hG, Nat.zero_add]; exact nI_le (Nat.le_refl _) (by omega)) (of_decide_eq_false c1))
    exact hk
  · exact hP0
theorem zl_mydS (D : Nat) (hD : v 71 1 = nI D) (h8 : D ≤ 8) (Gn : Nat) (hG : v 71 3 = nI Gn) (h4 : Gn ≤ 4) (sk : Int32) : ∀ (s : (Nat → Int32) × Int32 × (Nat → Int32) × (Nat → Int32) × (Nat → Int32)) (q : Option Value × zk_H), zk_lie Gn s.1 → zk_T zk_mt zk_ex Ls xs zm_217 ((fun (s : (Nat → Int32) × Int32 × (Nat → Int32) × (Nat → Int32) × (Nat → Int32)) => ((86, [(0, .ref 69), (1, .ref 76), (2, .int sk), (3, .int (nI (0 + D)))], []) : zk_F)) (zf (zl_mydG Gn (v 71) (v 79) sk) D 0 s)) ((fun (s : (Nat → Int32) × Int32 × (Nat → Int32) × (Nat → Int32) × (Nat → Int32)) => zH (zb (zb (zb (zb (zb v 68 (upd (v 68) 26 s.2.1)) 75 s.1) 80 s.2.2.1) 81 s.2.2.2.1) 82 s.2.2.2.2) w t) (zf (zl_mydG Gn (v 71) (v 79) sk) D 0 s)) q → zk_T zk_mt zk_ex Ls xs zm_217 (19, [(0, .ref 69), (1, .ref 76), (2, .int sk), (3, .int (nI 0))], []) (zH (zb (zb (zb (zb (zb v 68 (upd (v 68) 26 s.2.1)) 75 s.1) 80 s.2.2.1) 81 s.2.2.2.1) 82 s.2.2.2.2) w t) q := by
  intro s q hP0 hk
  refine zk_forK (M := zm_217) (fun j (s : (Nat → Int32) × Int32 × (Nat → Int32) × (Nat → Int32) × (Nat → Int32)) => (19, [(0, .ref 69), (1, .ref 76), (2, .int sk), (3, .int (nI j))], [])) (fun _ (s : (Nat → Int32) × Int32 × (Nat → Int32) × (Nat → Int32) × (Nat → Int32)) => zH (zb (zb (zb (zb (zb v 68 (upd (v 68) 26 s.2.1)) 75 s.1) 80 s.2.2.1) 81 s.2.2.2.1) 82 s.2.2.2.2) w t) (zl_mydG Gn (v 71) (v 79) sk) (fun j (s : (Nat → Int32) × Int32 × (Nat → Int32) × (Nat → Int32) × (Nat → Int32)) => zk_lie Gn s.1) (fun (s : (Nat → Int32) × Int32 × (Nat → Int32) × (Nat → Int32) × (Nat → Int32)) => (86, [(0, .ref 69), (1, .ref 76), (2, .int sk), (3, .int (nI (0 + D)))], [])) (fun (s : (Nat → Int32) × Int32 × (Nat → Int32) × (Nat → Int32) × (Nat → Int32)) => zH (zb (zb (zb (zb (zb v 68 (upd (v 68) 26 s.2.1)) 75 s.1) 80 s.2.2.1) 81 s.2.2.2.1) 82 s.2.2.2.2) w t) (D) 0 s (fun j s hj1 hj2 hp => by
    obtain ⟨row, ou, lt, lw, oo⟩ := s
    have hp : zk_lie Gn row := hp
    show zk_lie Gn (zl_mydG Gn (v 71) (v 79) sk j (row, ou, lt, lw, oo)).1
    unfold zl_mydG
    dsimp only
    split
    · exact hp
    · exact zl_myg_lie h4 (Nat.le_refl _) _ hp) (fun j s hj1 hj2 hp q hk => ?_) (fun s hp q hk => ?_) ?_ q hk
  · obtain ⟨row, ou, lt, lw, oo⟩ := s
    show zk_T zk_mt zk_ex Ls xs zm_217 (19, [(0, .ref 69), (1, .ref 76), (2, .int sk), (3, .int (nI j))], []) (zH (zb (zb (zb (zb (zb v 68 (upd (v 68) 26 ou)) 75 row) 80 lt) 81 lw) 82 oo) w t) q
    have hp : zk_lie Gn row := hp
    refine zk_T.adv 4 (f' := (25, [(0, .ref 69), (1, .ref 76), (2, .int sk), (3, .int (nI j))], [.int 1, .ref 72, .int (nI j)])) (h' := zH (zb (zb (zb (zb (zb v 68 (upd (v 68) 26 ou)) 75 row) 80 lt) 81 lw) 82 oo) w t) rfl ?_
    refine zk_T.ob (f' := (26, [(0, .ref 69), (1, .ref 76), (2, .int sk), (3, .int (nI j))], [.int (v 71 (1 : Int32).toNatClampNeg), .int (nI j)])) (h' := zH (zb (zb (zb (zb (zb v 68 (upd (v 68) 26 ou)) 75 row) 80 lt) 81 lw) 82 oo) w t) rfl rfl ?_
    show zk_T zk_mt zk_ex Ls xs zm_217 (26, [(0, .ref 69), (1, .ref 76), (2, .int sk), (3, .int (nI j))], [.int (v 71 1), .int (nI j)]) (zH (zb (zb (zb (zb (zb v 68 (upd (v 68) 26 ou)) 75 row) 80 lt) 81 lw) 82 oo) w t) _
    refine zk_T.br (f1 := (86, [(0, .ref 69), (1, .ref 76), (2, .int sk), (3, .int (nI j))], [])) (f2 := (29, [(0, .ref 69), (1, .ref 76), (2, .int sk), (3, .int (nI j))], [])) rfl (fun c1 => absurd (of_decide_eq_true c1) (by rw [show _ = nI D from hD]; exact nI_ge (show j < D by omega) (by omega))) (fun c1 => ?_)
    refine zk_T.adv 2 (f' := (31, [(0, .ref 69), (1, .ref 76), (2, .int sk), (3, .int (nI j))], [.int (nI j), .int sk])) (h' := zH (zb (zb (zb (zb (zb v 68 (upd (v 68) 26 ou)) 75 row) 80 lt) 81 lw) 82 oo) w t) rfl ?_
    refine zk_T.cl (v := some (.int (zr_mhasBit sk (nI j)))) (h' := zH (zb (zb (zb (zb (zb v 68 (upd (v 68) 26 ou)) 75 row) 80 lt) 81 lw) 82 oo) w t) rfl (zs_mhasBit sk (nI j)) ?_
    show zk_T zk_mt zk_ex Ls xs zm_217 (34, [(0, .ref 69), (1, .ref 76), (2, .int sk), (3, .int (nI j))], [.int (zr_mhasBit sk (nI j))]) (zH (zb (zb (zb (zb (zb v 68 (upd (v 68) 26 ou)) 75 row) 80 lt) 81 lw) 82 oo) w t) _
    refine zk_T.br (f1 := (37, [(0, .ref 69), (1, .ref 76), (2, .int sk), (3, .int (nI j))], [])) (f2 := (40, [(0, .ref 69), (1, .ref 76), (2, .int sk), (3, .int (nI j))], [])) rfl (fun c2 => ?_) (fun c2 => ?_)
    · have c2 : (zr_mhasBit sk (nI j)) = 0 := of_decide_eq_true c2
      refine zk_T.adv 3 (f' := (19, [(0, .ref 69), (1, .ref 76), (2, .int sk), (3, .int ((nI j) + 1))], [])) (h' := zH (zb (zb (zb (zb (zb v 68 (upd (v 68) 26 ou)) 75 row) 80 lt) 81 lw) 82 oo) w t) rfl ?_
      rw [nI_1]
      simp only [zl_mydG, if_pos c2] at hk
      exact hk
    · have c2 : ¬ ((zr_mhasBit sk (nI j)) = 0) := of_decide_eq_false c2
      refine zk_T.adv 2 (f' := (43, [(0, .ref 69), (1, .ref 76), (2, .int sk), (3, .int (nI j)), (4, .int 0)], [])) (h' := zH (zb (zb (zb (zb (zb v 68 (upd (v 68) 26 ou)) 75 row) 80 lt) 81 lw) 82 oo) w t) rfl ?_
      refine zl_mygS (v := v) (w := w) (t := t) Gn hG h4 sk j (by omega) (row, ou, lt, lw, oo) _ hp ?_
      show zk_T zk_mt zk_ex Ls xs zm_217 (80, [(0, .ref 69), (1, .ref 76), (2, .int sk), (3, .int (nI j)), (4, .int (nI (0 + Gn)))], []) (zH (zb (zb (zb (zb (zb v 68 (upd (v 68) 26 ((zf (zl_mygG (v 71) (v 79) j) Gn 0 (row, ou, lt, lw, oo)).2.1))) 75 ((zf (zl_mygG (v 71) (v 79) j) Gn 0 (row, ou, lt, lw, oo)).1)) 80 ((zf (zl_mygG (v 71) (v 79) j) Gn 0 (row, ou, lt, lw, oo)).2.2.1)) 81 ((zf (zl_mygG (v 71) (v 79) j) Gn 0 (row, ou, lt, lw, oo)).2.2.2.1)) 82 ((zf (zl_mygG (v 71) (v 79) j) Gn 0 (row, ou, lt, lw, oo)).2.2.2.2)) w t) _
      refine zk_T.adv 2 (f' := (19, [(0, .ref 69), (1, .ref 76), (2, .int sk), (3, .int ((nI j) + 1))], [])) (h' := zH (zb (zb (zb (zb (zb v 68 (upd (v 68) 26 ((zf (zl_mygG (v 71) (v 79) j) Gn 0 (row, ou, lt, lw, oo)).2.1))) 75 ((zf (zl_mygG (v 71) (v 79) j) Gn 0 (row, ou, lt, lw, oo)).1)) 80 ((zf (zl_mygG (v 71) (v 79) j) Gn 0 (row, ou, lt, lw, oo)).2.2.1)) 81 ((zf (zl_mygG (v 71) (v 79) j) Gn 0 (row, ou, lt, lw, oo)).2.2.2.1)) 82 ((zf (zl_mygG (v 71) (v 79) j) Gn 0 (row, ou, lt, lw, oo)).2.2.2.2)) w t) rfl ?_
      rw [nI_1]
      simp only [zl_mydG, if_neg c2] at hk
      exact hk
  · obtain ⟨row, ou, lt, lw, oo⟩ := s
    show zk_T zk_mt zk_ex Ls xs zm_217 (19, [(0, .ref 69), (1, .ref 76), (2, .int sk), (3, .int (nI (0 + D)))], []) (zH (zb (zb (zb (zb (zb v 68 (upd (v 68) 26 ou)) 75 row) 80 lt) 81 lw) 82 oo) w t) q
    have hp : zk_lie Gn row := hp
    refine zk_T.adv 4 (f' := (25, [(0, .ref 69), (1, .ref 76), (2, .int sk), (3, .int (nI (0 + D)))], [.int 1, .ref 72, .int (nI (0 + D))])) (h' := zH (zb (zb (zb (zb (zb v 68 (upd (v 68) 26 ou)) 75 row) 80 lt) 81 lw) 82 oo) w t) rfl ?_
    refine zk_T.ob (f' := (26, [(0, .ref 69), (1, .ref 76), (2, .int sk), (3, .int (nI (0 + D)))], [.int (v 71 (1 : Int32).toNatClampNeg), .int (nI (0 + D))])) (h' := zH (zb (zb (zb (zb (zb v 68 (upd (v 68) 26 ou)) 75 row) 80 lt) 81 lw) 82 oo) w t) rfl rfl ?_
    show zk_T zk_mt zk_ex Ls xs zm_217 (26, [(0, .ref 69), (1, .ref 76), (2, .int sk), (3, .int (nI (0 + D)))], [.int (v 71 1), .int (nI (0 + D))]) (zH (zb (zb (zb (zb (zb v 68 (upd (v 68) 26 ou)) 75 row) 80 lt) 81 lw) 82 oo) w t) _
    refine zk_T.br (f1 := (86, [(0, .ref 69), (1, .ref 76), (2, .int sk), (3, .int (nI (0 + D)))], [])) (f2 := (29, [(0, .ref 69), (1, .ref 76), (2, .int sk), (3, .int (nI (0 + D)))], [])) rfl (fun c1 => ?_) (fun c1 => absurd (by rw [show _ = nI D from hD, Nat.zero_add]; exact nI_le (Nat.le_refl _) (by omega)) (of_decide_eq_false c1))
    exact hk
  · exact hP0
/-- BasketKeepModel.yearOn -/
theorem zs_myearOnS (D : Nat) (hD : v 71 1 = nI D) (h8 : D ≤ 8) (Gn : Nat) (hG : v 71 3 = nI Gn) (h4 : Gn ≤ 4) (hev : ∀ d, d < D → ¬ v 71 (7 + 2 * d) = 0) (hli : zk_lie Gn (v 75)) : zk_Cr zk_mt zk_ex Ls xs 217 [.ref 69, .ref 76] (zH v w t) (none, zH (zb (zb (zb (zb (zb v 68 (upd (v 68) 26 ((zr_myear D Gn (v 71) (v 75) (v 79) (v 68 26) (v 80) (v 81) (v 82)).2.1))) 75 ((zr_myear D Gn (v 71) (v 75) (v 79) (v 68 26) (v 80) (v 81) (v 82)).1)) 80 ((zr_myear D Gn (v 71) (v 75) (v 79) (v 68 26) (v 80) (v 81) (v 82)).2.2.1)) 81 ((zr_myear D Gn (v 71) (v 75) (v 79) (v 68 26) (v 80) (v 81) (v 82)).2.2.2.1)) 82 ((zr_myear D Gn (v 71) (v 75) (v 79) (v 68 26) (v 80) (v 81) (v 82)).2.2.2.2)) w t) := by
  refine zk_Cr.of (K := zm_217) rfl rfl rfl ?_
  show zk_T zk_mt zk_ex Ls xs zm_217 (0, [(0, .ref 69), (1, .ref 76)], []) (zH v w t) _
  refine zk_T.adv 3 (f' := (4, [(0, .ref 69), (1, .ref 76)], [.int 15, .ref 76, .int 15, .ref 76])) (h' := zH v w t) rfl ?_
  refine zk_T.ob (f' := (5, [(0, .ref 69), (1, .ref 76)], [.int (v 75 (15 : Int32).toNatClampNeg), .int 15, .ref 76])) (h' := zH v w t) rfl rfl ?_
  show zk_T zk_mt zk_ex Ls xs zm_217 (5, [(0, .ref 69), (1, .ref 76)], [.int (v 75 15), .int 15, .ref 76]) (zH v w t) _
  refine zk_T.adv 2 (f' := (7, [(0, .ref 69), (1, .ref 76)], [.int ((v 75 15) + 1), .int 15, .ref 76])) (h' := zH v w t) rfl ?_
  refine zk_T.ob (f' := (8, [(0, .ref 69), (1, .ref 76)], [])) (h' := zH (zb v 75 (upd (v 75) (15 : Int32).toNatClampNeg ((v 75 15) + 1))) w t) rfl rfl ?_
  show zk_T zk_mt zk_ex Ls xs zm_217 (8, [(0, .ref 69), (1, .ref 76)], []) (zH (zb v 75 (upd (v 75) 15 ((v 75 15) + 1))) w t) _
  refine zk_T.adv 3 (f' := (12, [(0, .ref 69), (1, .ref 76)], [.int 15, .ref 76, .ref 69])) (h' := zH (zb v 75 (upd (v 75) 15 ((v 75 15) + 1))) w t) rfl ?_
  refine zk_T.ob (f' := (13, [(0, .ref 69), (1, .ref 76)], [.int ((upd (v 75) 15 ((v 75 15) + 1)) (15 : Int32).toNatClampNeg), .ref 69])) (h' := zH (zb v 75 (upd (v 75) 15 ((v 75 15) + 1))) w t) rfl rfl ?_
  show zk_T zk_mt zk_ex Ls xs zm_217 (13, [(0, .ref 69), (1, .ref 76)], [.int ((upd (v 75) 15 ((v 75 15) + 1)) 15), .ref 69]) (zH (zb v 75 (upd (v 75) 15 ((v 75 15) + 1))) w t) _
  refine zk_T.cl (v := some (.int (zr_mstrikersIn D (v 71) ((upd (v 75) 15 ((v 75 15) + 1)) 15)))) (h' := zH (zb v 75 (upd (v 75) 15 ((v 75 15) + 1))) w t) rfl (zs_mstrikersIn (v := (zb v 75 (upd (v 75) 15 ((v 75 15) + 1)))) D hD h8 hev ((upd (v 75) 15 ((v 75 15) + 1)) 15)) ?_
  show zk_T zk_mt zk_ex Ls xs zm_217 (16, [(0, .ref 69), (1, .ref 76)], [.int (zr_mstrikersIn D (v 71) ((upd (v 75) 15 ((v 75 15) + 1)) 15))]) (zH (zb v 75 (upd (v 75) 15 ((v 75 15) + 1))) w t) _
  refine zk_T.adv 3 (f' := (19, [(0, .ref 69), (1, .ref 76), (2, .int (zr_mstrikersIn D (v 71) ((upd (v 75) 15 ((v 75 15) + 1)) 15))), (3, .int 0)], [])) (h' := zH (zb v 75 (upd (v 75) 15 ((v 75 15) + 1))) w t) rfl ?_
  refine zl_mydS (v := v) (w := w) (t := t) D hD h8 Gn hG h4 (zr_mstrikersIn D (v 71) ((upd (v 75) 15 ((v 75 15) + 1)) 15)) (upd (v 75) 15 ((v 75 15) + 1), (v 68 26), v 80, v 81, v 82) _ (zk_lieU hli h4 (by omega) _) ?_
  show zk_T zk_mt zk_ex Ls xs zm_217 (86, [(0, .ref 69), (1, .ref 76), (2, .int (zr_mstrikersIn D (v 71) ((upd (v 75) 15 ((v 75 15) + 1)) 15))), (3, .int (nI (0 + D)))], []) (zH (zb (zb (zb (zb (zb v 68 (upd (v 68) 26 ((zf (zl_mydG Gn (v 71) (v 79) (zr_mstrikersIn D (v 71) ((upd (v 75) 15 ((v 75 15) + 1)) 15))) D 0 (upd (v 75) 15 ((v 75 15) + 1), (v 68 26), v 80, v 81, v 82)).2.1))) 75 ((zf (zl_mydG Gn (v 71) (v 79) (zr_mstrikersIn D (v 71) ((upd (v 75) 15 ((v 75 15) + 1)) 15))) D 0 (upd (v 75) 15 ((v 75 15) + 1), (v 68 26), v 80, v 81, v 82)).1)) 80 ((zf (zl_mydG Gn (v 71) (v 79) (zr_mstrikersIn D (v 71) ((upd (v 75) 15 ((v 75 15) + 1)) 15))) D 0 (upd (v 75) 15 ((v 75 15) + 1), (v 68 26), v 80, v 81, v 82)).2.2.1)) 81 ((zf (zl_mydG Gn (v 71) (v 79) (zr_mstrikersIn D (v 71) ((upd (v 75) 15 ((v 75 15) + 1)) 15))) D 0 (upd (v 75) 15 ((v 75 15) + 1), (v 68 26), v 80, v 81, v 82)).2.2.2.1)) 82 ((zf (zl_mydG Gn (v 71) (v 79) (zr_mstrikersIn D (v 71) ((upd (v 75) 15 ((v 75 15) + 1)) 15))) D 0 (upd (v 75) 15 ((v 75 15) + 1), (v 68 26), v 80, v 81, v 82)).2.2.2.2)) w t) _
  exact zk_T.rt rfl rfl (by simp only [zr_myear] <;> rfl)
def zl_mgoG (D Gn : Nat) (r slp : Nat → Int32) (j : Nat) (s : (Nat → Int32) × Int32 × (Nat → Int32) × (Nat → Int32) × (Nat → Int32)) : (Nat → Int32) × Int32 × (Nat → Int32) × (Nat → Int32) × (Nat → Int32) := match s with
  | (row, ou, lt, lw, oo) => ((zr_myear D Gn (r) row (slp) ou lt lw oo).1, (zr_myear D Gn (r) row (slp) ou lt lw oo).2.1, (zr_myear D Gn (r) row (slp) ou lt lw oo).2.2.1, (zr_myear D Gn (r) row (slp) ou lt lw oo).2.2.2.1, (zr_myear D Gn (r) row (slp) ou lt lw oo).2.2.2.2)
theorem zl_mgo (n : Nat) (hn : n < 2 ^ 31) (D : Nat) (hD : v 71 1 = nI D) (h8 : D ≤ 8) (Gn : Nat) (hG : v 71 3 = nI Gn) (h4 : Gn ≤ 4) (hev : ∀ d, d < D → ¬ v 71 (7 + 2 * d) = 0) : ∀ (s : (Nat → Int32) × Int32 × (Nat → Int32) × (Nat → Int32) × (Nat → Int32)) (q : Option Value × zk_H), zk_lie Gn s.1 → zk_T zk_mt zk_ex Ls xs zm_224 ((fun (s : (Nat → Int32) × Int32 × (Nat → Int32) × (Nat → Int32) × (Nat → Int32)) => ((21, [(0, .ref 69), (1, .int (nI n)), (2, .int (nI (0 + n)))], []) : zk_F)) (zf (zl_mgoG D Gn (v 71) (v 79)) n 0 s)) ((fun (s : (Nat → Int32) × Int32 × (Nat → Int32) × (Nat → Int32) × (Nat → Int32)) => zH (zb (zb (zb (zb (zb v 68 (upd (v 68) 26 s.2.1)) 76 s.1) 80 s.2.2.1) 81 s.2.2.2.1) 82 s.2.2.2.2) w t) (zf (zl_mgoG D Gn (v 71) (v 79)) n 0 s)) q → zk_T zk_mt zk_ex Ls xs zm_224 (2, [(0, .ref 69), (1, .int (nI n)), (2, .int (nI 0))], []) (zH (zb (zb (zb (zb (zb v 68 (upd (v 68) 26 s.2.1)) 76 s.1) 80 s.2.2.1) 81 s.2.2.2.1) 82 s.2.2.2.2) w t) q := by
  intro s q hP0 hk
  refine zk_forK (M := zm_224) (fun j (s : (Nat → Int32) × Int32 × (Nat → Int32) × (Nat → Int32) × (Nat → Int32)) => (2, [(0, .ref 69), (1, .int (nI n)), (2, .int (nI j))], [])) (fun _ (s : (Nat → Int32) × Int32 × (Nat → Int32) × (Nat → Int32) × (Nat → Int32)) => zH (zb (zb (zb (zb (zb v 68 (upd (v 68) 26 s.2.1)) 76 s.1) 80 s.2.2.1) 81 s.2.2.2.1) 82 s.2.2.2.2) w t) (zl_mgoG D Gn (v 71) (v 79)) (fun j (s : (Nat → Int32) × Int32 × (Nat → Int32) × (Nat → Int32) × (Nat → Int32)) => zk_lie Gn s.1) (fun (s : (Nat → Int32) × Int32 × (Nat → Int32) × (Nat → Int32) × (Nat → Int32)) => (21, [(0, .ref 69), (1, .int (nI n)), (2, .int (nI (0 + n)))], [])) (fun (s : (Nat → Int32) × Int32 × (Nat → Int32) × (Nat → Int32) × (Nat → Int32)) => zH (zb (zb (zb (zb (zb v 68 (upd (v 68) 26 s.2.1)) 76 s.1) 80 s.2.2.1) 81 s.2.2.2.1) 82 s.2.2.2.2) w t) (n) 0 s (fun j s hj1 hj2 hp => zr_myear_lie h4 hp) (fun j s hj1 hj2 hp q hk => ?_) (fun s hp q hk => ?_) ?_ q hk
  · obtain ⟨row, ou, lt, lw, oo⟩ := s
    show zk_T zk_mt zk_ex Ls xs zm_224 (2, [(0, .ref 69), (1, .int (nI n)), (2, .int (nI j))], []) (zH (zb (zb (zb (zb (zb v 68 (upd (v 68) 26 ou)) 76 row) 80 lt) 81 lw) 82 oo) w t) q
    have hp : zk_lie Gn row := hp
    refine zk_T.adv 2 (f' := (4, [(0, .ref 69), (1, .int (nI n)), (2, .int (nI j))], [.int (nI n), .int (nI j)])) (h' := zH (zb (zb (zb (zb (zb v 68 (upd (v 68) 26 ou)) 76 row) 80 lt) 81 lw) 82 oo) w t) rfl ?_
    refine zk_T.br (f1 := (21, [(0, .ref 69), (1, .int (nI n)), (2, .int (nI j))], [])) (f2 := (7, [(0, .ref 69), (1, .int (nI n)), (2, .int (nI j))], [])) rfl (fun c1 => absurd (of_decide_eq_true c1) (nI_ge (show j < n by omega) (by omega))) (fun c1 => ?_)
    refine zk_T.adv 3 (f' := (12, [(0, .ref 69), (1, .int (nI n)), (2, .int (nI j))], [.ref 77, .ref 69])) (h' := zH (zb (zb (zb (zb (zb v 68 (upd (v 68) 26 ou)) 76 row) 80 lt) 81 lw) 82 oo) w t) rfl ?_
    refine zk_T.cl (v := none) (h' := zH (zb (zb (zb (zb (zb v 68 (upd (v 68) 26 ((zr_myear D Gn (v 71) row (v 79) ou lt lw oo).2.1))) 76 ((zr_myear D Gn (v 71) row (v 79) ou lt lw oo).1)) 80 ((zr_myear D Gn (v 71) row (v 79) ou lt lw oo).2.2.1)) 81 ((zr_myear D Gn (v 71) row (v 79) ou lt lw oo).2.2.2.1)) 82 ((zr_myear D Gn (v 71) row (v 79) ou lt lw oo).2.2.2.2)) w t) rfl (zs_myearOnT (v := (zb (zb (zb (zb (zb v 68 (upd (v 68) 26 ou)) 76 row) 80 lt) 81 lw) 82 oo)) D hD h8 Gn hG h4 hev hp) ?_
    show zk_T zk_mt zk_ex Ls xs zm_224 (15, [(0, .ref 69), (1, .int (nI n)), (2, .int (nI j))], []) (zH (zb (zb (zb (zb (zb v 68 (upd (v 68) 26 ((zr_myear D Gn (v 71) row (v 79) ou lt lw oo).2.1))) 76 ((zr_myear D Gn (v 71) row (v 79) ou lt lw oo).1)) 80 ((zr_myear D Gn (v 71) row (v 79) ou lt lw oo).2.2.1)) 81 ((zr_myear D Gn (v 71) row (v 79) ou lt lw oo).2.2.2.1)) 82 ((zr_myear D Gn (v 71) row (v 79) ou lt lw oo).2.2.2.2)) w t) _
    refine zk_T.adv 2 (f' := (2, [(0, .ref 69), (1, .int (nI n)), (2, .int ((nI j) + 1))], [])) (h' := zH (zb (zb (zb (zb (zb v 68 (upd (v 68) 26 ((zr_myear D Gn (v 71) row (v 79) ou lt lw oo).2.1))) 76 ((zr_myear D Gn (v 71) row (v 79) ou lt lw oo).1)) 80 ((zr_myear D Gn (v 71) row (v 79) ou lt lw oo).2.2.1)) 81 ((zr_myear D Gn (v 71) row (v 79) ou lt lw oo).2.2.2.1)) 82 ((zr_myear D Gn (v 71) row (v 79) ou lt lw oo).2.2.2.2)) w t) rfl ?_
    rw [nI_1]
    simp only [zl_mgoG] at hk
    exact hk
  · obtain ⟨row, ou, lt, lw, oo⟩ := s
    show zk_T zk_mt zk_ex Ls xs zm_224 (2, [(0, .ref 69), (1, .int (nI n)), (2, .int (nI (0 + n)))], []) (zH (zb (zb (zb (zb (zb v 68 (upd (v 68) 26 ou)) 76 row) 80 lt) 81 lw) 82 oo) w t) q
    have hp : zk_lie Gn row := hp
    refine zk_T.adv 2 (f' := (4, [(0, .ref 69), (1, .int (nI n)), (2, .int (nI (0 + n)))], [.int (nI n), .int (nI (0 + n))])) (h' := zH (zb (zb (zb (zb (zb v 68 (upd (v 68) 26 ou)) 76 row) 80 lt) 81 lw) 82 oo) w t) rfl ?_
    refine zk_T.br (f1 := (21, [(0, .ref 69), (1, .int (nI n)), (2, .int (nI (0 + n)))], [])) (f2 := (7, [(0, .ref 69), (1, .int (nI n)), (2, .int (nI (0 + n)))], [])) rfl (fun c1 => ?_) (fun c1 => absurd (by rw [Nat.zero_add]; exact nI_le (Nat.le_refl _) (by omega)) (of_decide_eq_false c1))
    exact hk
  · exact hP0
def zr_mgo (n D Gn : Nat) (r slp row : Nat → Int32) (ou : Int32) (lt lw oo : Nat → Int32) : (Nat → Int32) × Int32 × (Nat → Int32) × (Nat → Int32) × (Nat → Int32) := ((zf (zl_mgoG D Gn (r) (slp)) n 0 (row, ou, lt, lw, oo)).1, (zf (zl_mgoG D Gn (r) (slp)) n 0 (row, ou, lt, lw, oo)).2.1, (zf (zl_mgoG D Gn (r) (slp)) n 0 (row, ou, lt, lw, oo)).2.2.1, (zf (zl_mgoG D Gn (r) (slp)) n 0 (row, ou, lt, lw, oo)).2.2.2.1, (zf (zl_mgoG D Gn (r) (slp)) n 0 (row, ou, lt, lw, oo)).2.2.2.2)
/-- BasketKeepModel.goOn -/
theorem zs_mgoOn (n : Nat) (hn : n < 2 ^ 31) (D : Nat) (hD : v 71 1 = nI D) (h8 : D ≤ 8) (Gn : Nat) (hG : v 71 3 = nI Gn) (h4 : Gn ≤ 4) (hev : ∀ d, d < D → ¬ v 71 (7 + 2 * d) = 0) (hli : zk_lie Gn (v 76)) : zk_Cr zk_mt zk_ex Ls xs 224 [.ref 69, .int (nI n)] (zH v w t) (none, zH (zb (zb (zb (zb (zb v 68 (upd (v 68) 26 ((zr_mgo n D Gn (v 71) (v 79) (v 76) (v 68 26) (v 80) (v 81) (v 82)).2.1))) 76 ((zr_mgo n D Gn (v 71) (v 79) (v 76) (v 68 26) (v 80) (v 81) (v 82)).1)) 80 ((zr_mgo n D Gn (v 71) (v 79) (v 76) (v 68 26) (v 80) (v 81) (v 82)).2.2.1)) 81 ((zr_mgo n D Gn (v 71) (v 79) (v 76) (v 68 26) (v 80) (v 81) (v 82)).2.2.2.1)) 82 ((zr_mgo n D Gn (v 71) (v 79) (v 76) (v 68 26) (v 80) (v 81) (v 82)).2.2.2.2)) w t) := by
  refine zk_Cr.of (K := zm_224) rfl rfl rfl ?_
  show zk_T zk_mt zk_ex Ls xs zm_224 (0, [(0, .ref 69), (1, .int (nI n))], []) (zH v w t) _
  refine zk_T.adv 2 (f' := (2, [(0, .ref 69), (1, .int (nI n)), (2, .int 0)], [])) (h' := zH v w t) rfl ?_
  refine zl_mgo (v := v) (w := w) (t := t) n hn D hD h8 Gn hG h4 hev (v 76, (v 68 26), v 80, v 81, v 82) _ hli ?_
  show zk_T zk_mt zk_ex Ls xs zm_224 (21, [(0, .ref 69), (1, .int (nI n)), (2, .int (nI (0 + n)))], []) (zH (zb (zb (zb (zb (zb v 68 (upd (v 68) 26 ((zf (zl_mgoG D Gn (v 71) (v 79)) n 0 (v 76, (v 68 26), v 80, v 81, v 82)).2.1))) 76 ((zf (zl_mgoG D Gn (v 71) (v 79)) n 0 (v 76, (v 68 26), v 80, v 81, v 82)).1)) 80 ((zf (zl_mgoG D Gn (v 71) (v 79)) n 0 (v 76, (v 68 26), v 80, v 81, v 82)).2.2.1)) 81 ((zf (zl_mgoG D Gn (v 71) (v 79)) n 0 (v 76, (v 68 26), v 80, v 81, v 82)).2.2.2.1)) 82 ((zf (zl_mgoG D Gn (v 71) (v 79)) n 0 (v 76, (v 68 26), v 80, v 81, v 82)).2.2.2.2)) w t) _
  exact zk_T.rt rfl rfl (by simp only [zr_mgo] <;> rfl)
end Z50
