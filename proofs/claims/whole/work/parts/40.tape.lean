/-! contracts: the tape -/
/-- a loop that goes on as long as it goes on -/
def zw {σ : Type} (G : σ → σ ⊕ σ) : Nat → σ → σ
  | 0, s => s
  | n + 1, s => match G s with
    | .inl s' => zw G n s'
    | .inr r => r
theorem zw_inv {σ : Type} {G : σ → σ ⊕ σ} {P : σ → Prop} (h1 : ∀ s s', P s → G s = .inl s' → P s') (h2 : ∀ s s', P s → G s = .inr s' → P s') : ∀ (n : Nat) (s : σ), P s → P (zw G n s)
  | 0, s, hp => hp
  | n + 1, s, hp => by
    unfold zw
    cases hg : G s with
    | inl s' => exact zw_inv h1 h2 n s' (h1 s s' hp hg)
    | inr r => exact h2 s r hp hg
section ZWL
variable {Ls : Nat} {xs : Nat → Int32} {M : zk_M}
theorem zk_whl {σ : Type} (F : σ → zk_F) (Hh : σ → zk_H) (Fx : σ → zk_F) (Hx : σ → zk_H) (G : σ → σ ⊕ σ) (P : σ → Prop) (μ : σ → Nat)
    (h1 : ∀ s s', P s → G s = .inl s' → P s' ∧ μ s' < μ s)
    (h2 : ∀ s, P s → ∀ q, zk_or (fun s' => zk_T zk_mt zk_ex Ls xs M (F s') (Hh s') q) (fun r => zk_T zk_mt zk_ex Ls xs M (Fx r) (Hx r) q) (G s) → zk_T zk_mt zk_ex Ls xs M (F s) (Hh s) q) :
    ∀ (n : Nat) (s : σ), P s → μ s < n → ∀ q, zk_T zk_mt zk_ex Ls xs M (Fx (zw G n s)) (Hx (zw G n s)) q → zk_T zk_mt zk_ex Ls xs M (F s) (Hh s) q
  | 0, s, _, hn, q, _ => absurd hn (Nat.not_lt_zero _)
  | n + 1, s, hp, hn, q, hk => by
    refine h2 s hp q ?_
    unfold zw at hk
    cases hg : G s with
    | inl s' =>
      rw [hg] at hk
      have h3 := h1 s s' hp hg
      exact zk_whl F Hh Fx Hx G P μ h1 h2 n s' h3.1 (by omega) q hk
    | inr r =>
      rw [hg] at hk
      exact hk
end ZWL
theorem zk_ltN {a b : Nat} (h : ¬ nI a ≤ nI b) (hb : b < 2 ^ 31) : b < a := Nat.lt_of_not_le (fun z => h (nI_le z hb))
section Z40
variable {Ls : Nat} {xs : Nat → Int32} {v : Nat → Nat → Int32} {w : Nat → Nat → Int64} {t : zk_H}
theorem zk_sh1 : ∀ j : Nat, j < 4 → ¬ (24 - 8 * nI j : Int32) < 0 := by decide +kernel
theorem zk_sh2 : ∀ j : Nat, j < 4 → (24 - 8 * nI j : Int32) + (-8) = 24 - 8 * nI (j + 1) := by decide +kernel
def zl_appG (x : Int32) (j : Nat) (s : Nat × (Nat → Int32)) : Nat × (Nat → Int32) := match s with
  | (k, by_) => ((k + 1), upd by_ k (((x >>> ((24 - 8 * nI j) &&& 31)).toInt8.toInt32)).toInt8.toInt32)
theorem zl_app (x : Int32) : ∀ (s : Nat × (Nat → Int32)) (q : Option Value × zk_H), s.1 + (4 - 0) ≤ 900 → zk_T zk_mt zk_ex Ls xs zm_13 ((fun (s : Nat × (Nat → Int32)) => ((48, [(0, .ref 2), (1, .int x), (2, .int (24 - 8 * nI (0 + 4)))], []) : zk_F)) (zf (zl_appG x) 4 0 s)) ((fun (s : Nat × (Nat → Int32)) => zH (zb (zb v 2 (upd (v 2) 1 (nI s.1))) 3 s.2) w t) (zf (zl_appG x) 4 0 s)) q → zk_T zk_mt zk_ex Ls xs zm_13 (3, [(0, .ref 2), (1, .int x), (2, .int (24 - 8 * nI 0))], []) (zH (zb (zb v 2 (upd (v 2) 1 (nI s.1))) 3 s.2) w t) q := by
  intro s q hP0 hk
  refine zk_forK (M := zm_13) (fun j (s : Nat × (Nat → Int32)) => (3, [(0, .ref 2), (1, .int x), (2, .int (24 - 8 * nI j))], [])) (fun _ (s : Nat × (Nat → Int32)) => zH (zb (zb v 2 (upd (v 2) 1 (nI s.1))) 3 s.2) w t) (zl_appG x) (fun j (s : Nat × (Nat → Int32)) => s.1 + (4 - j) ≤ 900) (fun (s : Nat × (Nat → Int32)) => (48, [(0, .ref 2), (1, .int x), (2, .int (24 - 8 * nI (0 + 4)))], [])) (fun (s : Nat × (Nat → Int32)) => zH (zb (zb v 2 (upd (v 2) 1 (nI s.1))) 3 s.2) w t) (4) 0 s (fun j s hj1 hj2 hp => by show s.1 + 1 + (4 - (j + 1)) ≤ 900; have hp : s.1 + (4 - j) ≤ 900 := hp; omega) (fun j s hj1 hj2 hp q hk => ?_) (fun s hp q hk => ?_) ?_ q hk
  · obtain ⟨k, by_⟩ := s
    show zk_T zk_mt zk_ex Ls xs zm_13 (3, [(0, .ref 2), (1, .int x), (2, .int (24 - 8 * nI j))], []) (zH (zb (zb v 2 (upd (v 2) 1 (nI k))) 3 by_) w t) q
    have hp : k + (4 - j) ≤ 900 := hp
    refine zk_T.adv 1 (f' := (4, [(0, .ref 2), (1, .int x), (2, .int (24 - 8 * nI j))], [.int (24 - 8 * nI j)])) (h' := zH (zb (zb v 2 (upd (v 2) 1 (nI k))) 3 by_) w t) rfl ?_
    refine zk_T.br (f1 := (48, [(0, .ref 2), (1, .int x), (2, .int (24 - 8 * nI j))], [])) (f2 := (7, [(0, .ref 2), (1, .int x), (2, .int (24 - 8 * nI j))], [])) rfl (fun c1 => absurd (of_decide_eq_true c1) (zk_sh1 j (by omega))) (fun c1 => ?_)
    refine zk_T.adv 5 (f' := (16, [(0, .ref 2), (1, .int x), (2, .int (24 - 8 * nI j))], [.int (Int32.ofNat 900), .int (nI k)])) (h' := zH (zb (zb v 2 (upd (v 2) 1 (nI k))) 3 by_) w t) rfl ?_
    refine zk_T.br (f1 := (48, [(0, .ref 2), (1, .int x), (2, .int (24 - 8 * nI j))], [])) (f2 := (19, [(0, .ref 2), (1, .int x), (2, .int (24 - 8 * nI j))], [])) rfl (fun c2 => absurd (of_decide_eq_true c2) (show ¬ (Int32.ofNat 900) ≤ nI k from nI_ge (by omega) (by decide))) (fun c2 => ?_)
    refine zk_T.adv 8 (f' := (31, [(0, .ref 2), (1, .int x), (2, .int (24 - 8 * nI j))], [.int ((x >>> ((24 - 8 * nI j) &&& 31)).toInt8.toInt32), .int (nI k), .ref 3])) (h' := zH (zb (zb v 2 (upd (v 2) 1 (nI k))) 3 by_) w t) rfl ?_
    refine zk_T.ob (f' := (32, [(0, .ref 2), (1, .int x), (2, .int (24 - 8 * nI j))], [])) (h' := zH (zb (zb v 2 (upd (v 2) 1 (nI k))) 3 (upd by_ ((nI k)).toNatClampNeg (((x >>> ((24 - 8 * nI j) &&& 31)).toInt8.toInt32)).toInt8.toInt32)) w t) rfl (by first | exact zk_inN (by omega) (by decide) | decide) ?_
    rw [nI_clamp (show k < 2 ^ 31 by omega)]
    refine zk_T.adv 5 (f' := (39, [(0, .ref 2), (1, .int x), (2, .int (24 - 8 * nI j))], [.int ((nI k) + 1), .ref 2])) (h' := zH (zb (zb v 2 (upd (v 2) 1 (nI k))) 3 (upd by_ k (((x >>> ((24 - 8 * nI j) &&& 31)).toInt8.toInt32)).toInt8.toInt32)) w t) rfl ?_
    rw [show (nI k) + 1 = nI (k + 1) from nI_add k 1]
    refine zk_T.adv 3 (f' := (3, [(0, .ref 2), (1, .int x), (2, .int ((24 - 8 * nI j) + (-8)))], [])) (h' := zH (zb (zb v 2 (upd (v 2) 1 (nI (k + 1)))) 3 (upd by_ k (((x >>> ((24 - 8 * nI j) &&& 31)).toInt8.toInt32)).toInt8.toInt32)) w t) rfl ?_
    rw [zk_sh2 j (by omega)]
    simp only [zl_appG] at hk
    exact hk
  · obtain ⟨k, by_⟩ := s
    show zk_T zk_mt zk_ex Ls xs zm_13 (3, [(0, .ref 2), (1, .int x), (2, .int (24 - 8 * nI (0 + 4)))], []) (zH (zb (zb v 2 (upd (v 2) 1 (nI k))) 3 by_) w t) q
    have hp : k + (4 - (0 + 4)) ≤ 900 := hp
    refine zk_T.adv 1 (f' := (4, [(0, .ref 2), (1, .int x), (2, .int (24 - 8 * nI (0 + 4)))], [.int (24 - 8 * nI (0 + 4))])) (h' := zH (zb (zb v 2 (upd (v 2) 1 (nI k))) 3 by_) w t) rfl ?_
    refine zk_T.br (f1 := (48, [(0, .ref 2), (1, .int x), (2, .int (24 - 8 * nI (0 + 4)))], [])) (f2 := (7, [(0, .ref 2), (1, .int x), (2, .int (24 - 8 * nI (0 + 4)))], [])) rfl (fun c1 => ?_) (fun c1 => absurd (by decide) (of_decide_eq_false c1))
    exact hk
  · exact hP0
def zr_app (x : Int32) (L : Nat) (by_ : Nat → Int32) : (Nat → Int32) × Nat := ((zf (zl_appG x) 4 0 (L, by_)).2, ((zf (zl_appG x) 4 0 (L, by_)).1))
/-- BasketKeep$Tape.append -/
theorem zs_append (x : Int32) (L : Nat) (hL4 : L + 4 ≤ 900) : zk_Cr zk_mt zk_ex Ls xs 13 [.ref 2, .int x] (zH (zb v 2 (upd (v 2) 1 (nI L))) w t) (none, zH (zb (zb v 2 (upd (v 2) 1 (nI ((zr_app x L (v 3)).2)))) 3 ((zr_app x L (v 3)).1)) w t) := by
  refine zk_Cr.of (K := zm_13) rfl rfl rfl ?_
  show zk_T zk_mt zk_ex Ls xs zm_13 (0, [(0, .ref 2), (1, .int x)], []) (zH (zb v 2 (upd (v 2) 1 (nI L))) w t) _
  refine zk_T.adv 2 (f' := (3, [(0, .ref 2), (1, .int x), (2, .int 24)], [])) (h' := zH (zb v 2 (upd (v 2) 1 (nI L))) w t) rfl ?_
  refine zl_app (v := v) x (L, v 3) _ hL4 ?_
  show zk_T zk_mt zk_ex Ls xs zm_13 (48, [(0, .ref 2), (1, .int x), (2, .int (24 - 8 * nI (0 + 4)))], []) (zH (zb (zb v 2 (upd (v 2) 1 (nI ((zf (zl_appG x) 4 0 (L, v 3)).1)))) 3 ((zf (zl_appG x) 4 0 (L, v 3)).2)) w t) _
  exact zk_T.rt rfl rfl (by simp only [zr_app] <;> rfl)
theorem zr_app2 (x : Int32) (L : Nat) (by_ : Nat → Int32) : (zr_app x L by_).2 = L + 4 := rfl
/-- BasketKeep.feed -/
theorem zK_feed_t (a b c d e : Int32) (L : Nat) (hL : v 2 1 = nI L) (hL9 : L ≤ 900) (hf : 900 < L + 20) : zk_Cr zk_mt zk_ex Ls xs 75 [.ref 0, .int a, .int b, .int c, .int d, .int e] (zH v w t) (some (.int (-1)), zH v w t) := by
  refine zk_Cr.of (K := zm_75) rfl rfl rfl ?_
  show zk_T zk_mt zk_ex Ls xs zm_75 (0, [(0, .ref 0), (1, .int a), (2, .int b), (3, .int c), (4, .int d), (5, .int e)], []) (zH v w t) _
  refine zk_T.adv 6 (f' := (14, [(0, .ref 0), (1, .int a), (2, .int b), (3, .int c), (4, .int d), (5, .int e), (6, .ref 2)], [.int (v 2 1)])) (h' := zH v w t) rfl ?_
  rw [show (v 2 1) = nI L from hL]
  refine zk_T.adv 2 (f' := (17, [(0, .ref 0), (1, .int a), (2, .int b), (3, .int c), (4, .int d), (5, .int e), (6, .ref 2)], [.int ((nI L) + 20)])) (h' := zH v w t) rfl ?_
  rw [show (nI L) + 20 = nI (L + 20) from nI_add L 20]
  refine zk_T.adv 1 (f' := (20, [(0, .ref 0), (1, .int a), (2, .int b), (3, .int c), (4, .int d), (5, .int e), (6, .ref 2)], [.int 900, .int (nI (L + 20))])) (h' := zH v w t) rfl ?_
  refine zk_T.br (f1 := (25, [(0, .ref 0), (1, .int a), (2, .int b), (3, .int c), (4, .int d), (5, .int e), (6, .ref 2)], [])) (f2 := (23, [(0, .ref 0), (1, .int a), (2, .int b), (3, .int c), (4, .int d), (5, .int e), (6, .ref 2)], [])) rfl (fun c1 => absurd (of_decide_eq_true c1) (show ¬ nI (L + 20) ≤ 900 from nI_ge hf (by omega))) (fun c1 => ?_)
  refine zk_T.adv 1 (f' := (24, [(0, .ref 0), (1, .int a), (2, .int b), (3, .int c), (4, .int d), (5, .int e), (6, .ref 2)], [.int (-1)])) (h' := zH v w t) rfl ?_
  exact zk_T.rt rfl rfl (by rfl)
/-- BasketKeep.feed -/
theorem zK_feed_f (a b c d e : Int32) (L : Nat) (hf : L + 20 ≤ 900) : zk_Cr zk_mt zk_ex Ls xs 75 [.ref 0, .int a, .int b, .int c, .int d, .int e] (zH (zb v 2 (upd (v 2) 1 (nI L))) w t) (some (.int (nI (L + 20))), zH (zb (zb v 2 (upd (v 2) 1 (nI (L + 20)))) 3 ((zr_app e (L + 16) ((zr_app d (L + 12) ((zr_app c (L + 8) ((zr_app b (L + 4) ((zr_app a L (v 3)).1)).1)).1)).1)).1)) w t) := by
  refine zk_Cr.of (K := zm_75) rfl rfl rfl ?_
  show zk_T zk_mt zk_ex Ls xs zm_75 (0, [(0, .ref 0), (1, .int a), (2, .int b), (3, .int c), (4, .int d), (5, .int e)], []) (zH (zb v 2 (upd (v 2) 1 (nI L))) w t) _
  refine zk_T.adv 8 (f' := (17, [(0, .ref 0), (1, .int a), (2, .int b), (3, .int c), (4, .int d), (5, .int e), (6, .ref 2)], [.int ((nI L) + 20)])) (h' := zH (zb v 2 (upd (v 2) 1 (nI L))) w t) rfl ?_
  rw [show (nI L) + 20 = nI (L + 20) from nI_add L 20]
  refine zk_T.adv 1 (f' := (20, [(0, .ref 0), (1, .int a), (2, .int b), (3, .int c), (4, .int d), (5, .int e), (6, .ref 2)], [.int 900, .int (nI (L + 20))])) (h' := zH (zb v 2 (upd (v 2) 1 (nI L))) w t) rfl ?_
  refine zk_T.br (f1 := (25, [(0, .ref 0), (1, .int a), (2, .int b), (3, .int c), (4, .int d), (5, .int e), (6, .ref 2)], [])) (f2 := (23, [(0, .ref 0), (1, .int a), (2, .int b), (3, .int c), (4, .int d), (5, .int e), (6, .ref 2)], [])) rfl (fun c1 => ?_) (fun c1 => absurd (show nI (L + 20) ≤ 900 from nI_le hf (by decide)) (of_decide_eq_false c1))
  refine zk_T.adv 2 (f' := (28, [(0, .ref 0), (1, .int a), (2, .int b), (3, .int c), (4, .int d), (5, .int e), (6, .ref 2)], [.int a, .ref 2])) (h' := zH (zb v 2 (upd (v 2) 1 (nI L))) w t) rfl ?_
  refine zk_T.cl (v := none) (h' := zH (zb (zb v 2 (upd (v 2) 1 (nI (L + 4)))) 3 ((zr_app a L (v 3)).1)) w t) rfl (zs_append (v := (zb v 2 (upd (v 2) 1 (nI L)))) a L (by omega)) ?_
  show zk_T zk_mt zk_ex Ls xs zm_75 (31, [(0, .ref 0), (1, .int a), (2, .int b), (3, .int c), (4, .int d), (5, .int e), (6, .ref 2)], []) (zH (zb (zb v 2 (upd (v 2) 1 (nI (L + 4)))) 3 ((zr_app a L (v 3)).1)) w t) _
  refine zk_T.adv 2 (f' := (34, [(0, .ref 0), (1, .int a), (2, .int b), (3, .int c), (4, .int d), (5, .int e), (6, .ref 2)], [.int b, .ref 2])) (h' := zH (zb (zb v 2 (upd (v 2) 1 (nI (L + 4)))) 3 ((zr_app a L (v 3)).1)) w t) rfl ?_
  refine zk_T.cl (v := none) (h' := zH (zb (zb v 2 (upd (v 2) 1 (nI (L + 8)))) 3 ((zr_app b (L + 4) ((zr_app a L (v 3)).1)).1)) w t) rfl (zs_append (v := (zb (zb v 2 (upd (v 2) 1 (nI (L + 4)))) 3 ((zr_app a L (v 3)).1))) b (L + 4) (by omega)) ?_
  show zk_T zk_mt zk_ex Ls xs zm_75 (37, [(0, .ref 0), (1, .int a), (2, .int b), (3, .int c), (4, .int d), (5, .int e), (6, .ref 2)], []) (zH (zb (zb v 2 (upd (v 2) 1 (nI (L + 8)))) 3 ((zr_app b (L + 4) ((zr_app a L (v 3)).1)).1)) w t) _
  refine zk_T.adv 2 (f' := (40, [(0, .ref 0), (1, .int a), (2, .int b), (3, .int c), (4, .int d), (5, .int e), (6, .ref 2)], [.int c, .ref 2])) (h' := zH (zb (zb v 2 (upd (v 2) 1 (nI (L + 8)))) 3 ((zr_app b (L + 4) ((zr_app a L (v 3)).1)).1)) w t) rfl ?_
  refine zk_T.cl (v := none) (h' := zH (zb (zb v 2 (upd (v 2) 1 (nI (L + 12)))) 3 ((zr_app c (L + 8) ((zr_app b (L + 4) ((zr_app a L (v 3)).1)).1)).1)) w t) rfl (zs_append (v := (zb (zb v 2 (upd (v 2) 1 (nI (L + 8)))) 3 ((zr_app b (L + 4) ((zr_app a L (v 3)).1)).1))) c (L + 8) (by omega)) ?_
  show zk_T zk_mt zk_ex Ls xs zm_75 (43, [(0, .ref 0), (1, .int a), (2, .int b), (3, .int c), (4, .int d), (5, .int e), (6, .ref 2)], []) (zH (zb (zb v 2 (upd (v 2) 1 (nI (L + 12)))) 3 ((zr_app c (L + 8) ((zr_app b (L + 4) ((zr_app a L (v 3)).1)).1)).1)) w t) _
  refine zk_T.adv 2 (f' := (47, [(0, .ref 0), (1, .int a), (2, .int b), (3, .int c), (4, .int d), (5, .int e), (6, .ref 2)], [.int d, .ref 2])) (h' := zH (zb (zb v 2 (upd (v 2) 1 (nI (L + 12)))) 3 ((zr_app c (L + 8) ((zr_app b (L + 4) ((zr_app a L (v 3)).1)).1)).1)) w t) rfl ?_
  refine zk_T.cl (v := none) (h' := zH (zb (zb v 2 (upd (v 2) 1 (nI (L + 16)))) 3 ((zr_app d (L + 12) ((zr_app c (L + 8) ((zr_app b (L + 4) ((zr_app a L (v 3)).1)).1)).1)).1)) w t) rfl (zs_append (v := (zb (zb v 2 (upd (v 2) 1 (nI (L + 12)))) 3 ((zr_app c (L + 8) ((zr_app b (L + 4) ((zr_app a L (v 3)).1)).1)).1))) d (L + 12) (by omega)) ?_
  show zk_T zk_mt zk_ex Ls xs zm_75 (50, [(0, .ref 0), (1, .int a), (2, .int b), (3, .int c), (4, .int d), (5, .int e), (6, .ref 2)], []) (zH (zb (zb v 2 (upd (v 2) 1 (nI (L + 16)))) 3 ((zr_app d (L + 12) ((zr_app c (L + 8) ((zr_app b (L + 4) ((zr_app a L (v 3)).1)).1)).1)).1)) w t) _
  refine zk_T.adv 2 (f' := (54, [(0, .ref 0), (1, .int a), (2, .int b), (3, .int c), (4, .int d), (5, .int e), (6, .ref 2)], [.int e, .ref 2])) (h' := zH (zb (zb v 2 (upd (v 2) 1 (nI (L + 16)))) 3 ((zr_app d (L + 12) ((zr_app c (L + 8) ((zr_app b (L + 4) ((zr_app a L (v 3)).1)).1)).1)).1)) w t) rfl ?_
  refine zk_T.cl (v := none) (h' := zH (zb (zb v 2 (upd (v 2) 1 (nI (L + 20)))) 3 ((zr_app e (L + 16) ((zr_app d (L + 12) ((zr_app c (L + 8) ((zr_app b (L + 4) ((zr_app a L (v 3)).1)).1)).1)).1)).1)) w t) rfl (zs_append (v := (zb (zb v 2 (upd (v 2) 1 (nI (L + 16)))) 3 ((zr_app d (L + 12) ((zr_app c (L + 8) ((zr_app b (L + 4) ((zr_app a L (v 3)).1)).1)).1)).1))) e (L + 16) (by omega)) ?_
  show zk_T zk_mt zk_ex Ls xs zm_75 (57, [(0, .ref 0), (1, .int a), (2, .int b), (3, .int c), (4, .int d), (5, .int e), (6, .ref 2)], []) (zH (zb (zb v 2 (upd (v 2) 1 (nI (L + 20)))) 3 ((zr_app e (L + 16) ((zr_app d (L + 12) ((zr_app c (L + 8) ((zr_app b (L + 4) ((zr_app a L (v 3)).1)).1)).1)).1)).1)) w t) _
  refine zk_T.adv 2 (f' := (62, [(0, .ref 0), (1, .int a), (2, .int b), (3, .int c), (4, .int d), (5, .int e), (6, .ref 2)], [.int (nI (L + 20))])) (h' := zH (zb (zb v 2 (upd (v 2) 1 (nI (L + 20)))) 3 ((zr_app e (L + 16) ((zr_app d (L + 12) ((zr_app c (L + 8) ((zr_app b (L + 4) ((zr_app a L (v 3)).1)).1)).1)).1)).1)) w t) rfl ?_
  exact zk_T.rt rfl rfl (by rfl)
def zr_isLetter (c : Int32) : Int32 := if c < 97 then 0 else (if 122 < c then 0 else 1)
/-- BasketKeep$Tape.isLetter -/
theorem zs_isLetter (c : Int32) : zk_Cr zk_mt zk_ex Ls xs 15 [.int c] (zH v w t) (some (.int (zr_isLetter c)), zH v w t) := by
  refine zk_Cr.of (K := zm_15) rfl rfl rfl ?_
  show zk_T zk_mt zk_ex Ls xs zm_15 (0, [(0, .int c)], []) (zH v w t) _
  refine zk_T.adv 2 (f' := (3, [(0, .int c)], [.int 97, .int c])) (h' := zH v w t) rfl ?_
  refine zk_T.br (f1 := (16, [(0, .int c)], [])) (f2 := (6, [(0, .int c)], [])) rfl (fun c1 => ?_) (fun c1 => ?_)
  · have c1 : c < 97 := of_decide_eq_true c1
    refine zk_T.adv 1 (f' := (17, [(0, .int c)], [.int 0])) (h' := zH v w t) rfl ?_
    exact zk_T.rt rfl rfl (by simp only [zr_isLetter, if_pos c1])
  · have c1 : ¬ (c < 97) := of_decide_eq_false c1
    refine zk_T.adv 2 (f' := (9, [(0, .int c)], [.int 122, .int c])) (h' := zH v w t) rfl ?_
    refine zk_T.br (f1 := (16, [(0, .int c)], [])) (f2 := (12, [(0, .int c)], [])) rfl (fun c2 => ?_) (fun c2 => ?_)
    · have c2 : 122 < c := of_decide_eq_true c2
      refine zk_T.adv 1 (f' := (17, [(0, .int c)], [.int 0])) (h' := zH v w t) rfl ?_
      exact zk_T.rt rfl rfl (by simp only [zr_isLetter, if_neg c1, if_pos c2])
    · have c2 : ¬ (122 < c) := of_decide_eq_false c2
      refine zk_T.adv 2 (f' := (17, [(0, .int c)], [.int 1])) (h' := zH v w t) rfl ?_
      exact zk_T.rt rfl rfl (by simp only [zr_isLetter, if_neg c1, if_neg c2])
def zr_isDigit (c : Int32) : Int32 := if c < 48 then 0 else (if 57 < c then 0 else 1)
/-- BasketKeep$Tape.isDigit -/
theorem zs_isDigit (c : Int32) : zk_Cr zk_mt zk_ex Ls xs 14 [.int c] (zH v w t) (some (.int (zr_isDigit c)), zH v w t) := by
  refine zk_Cr.of (K := zm_14) rfl rfl rfl ?_
  show zk_T zk_mt zk_ex Ls xs zm_14 (0, [(0, .int c)], []) (zH v w t) _
  refine zk_T.adv 2 (f' := (3, [(0, .int c)], [.int 48, .int c])) (h' := zH v w t) rfl ?_
  refine zk_T.br (f1 := (16, [(0, .int c)], [])) (f2 := (6, [(0, .int c)], [])) rfl (fun c1 => ?_) (fun c1 => ?_)
  · have c1 : c < 48 := of_decide_eq_true c1
    refine zk_T.adv 1 (f' := (17, [(0, .int c)], [.int 0])) (h' := zH v w t) rfl ?_
    exact zk_T.rt rfl rfl (by simp only [zr_isDigit, if_pos c1])
  · have c1 : ¬ (c < 48) := of_decide_eq_false c1
    refine zk_T.adv 2 (f' := (9, [(0, .int c)], [.int 57, .int c])) (h' := zH v w t) rfl ?_
    refine zk_T.br (f1 := (16, [(0, .int c)], [])) (f2 := (12, [(0, .int c)], [])) rfl (fun c2 => ?_) (fun c2 => ?_)
    · have c2 : 57 < c := of_decide_eq_true c2
      refine zk_T.adv 1 (f' := (17, [(0, .int c)], [.int 0])) (h' := zH v w t) rfl ?_
      exact zk_T.rt rfl rfl (by simp only [zr_isDigit, if_neg c1, if_pos c2])
    · have c2 : ¬ (57 < c) := of_decide_eq_false c2
      refine zk_T.adv 2 (f' := (17, [(0, .int c)], [.int 1])) (h' := zH v w t) rfl ?_
      exact zk_T.rt rfl rfl (by simp only [zr_isDigit, if_neg c1, if_neg c2])
def zl_twG (by_ : Nat → Int32) (E : Nat) (s : Nat × Int64) : (Nat × Int64) ⊕ (Nat × Int64) := match s with
  | (k, va) => if (nI E) ≤ (nI k) then .inr (k, va) else (if (zr_isLetter (by_ k)) = 0 then .inr (k, va) else .inl ((k + 1), (va <<< ((5 : Int32).toInt64 &&& 63)) ||| ((((by_ k) - 97) + 1 : Int32).toInt64)))
theorem zl_tw (E : Nat) (hE : v 2 2 = nI E) (hE9 : E ≤ 900) : ∀ (n : Nat) (s : Nat × Int64) (q : Option Value × zk_H), s.1 ≤ E → E - s.1 < n → zk_T zk_mt zk_ex Ls xs zm_85 ((fun (s : Nat × Int64) => ((65, [(0, .ref 2)], []) : zk_F)) (zw (zl_twG (v 3) E) n s)) ((fun (s : Nat × Int64) => zH (zb v 2 (upd (v 2) 3 (nI s.1))) (zb w 2 (vp_updL (w 2) 6 s.2)) t) (zw (zl_twG (v 3) E) n s)) q → zk_T zk_mt zk_ex Ls xs zm_85 (0, [(0, .ref 2)], []) (zH (zb v 2 (upd (v 2) 3 (nI s.1))) (zb w 2 (vp_updL (w 2) 6 s.2)) t) q := by
  intro n s q hP0 hn hk
  refine zk_whl (M := zm_85) (fun (s : Nat × Int64) => (0, [(0, .ref 2)], [])) (fun (s : Nat × Int64) => zH (zb v 2 (upd (v 2) 3 (nI s.1))) (zb w 2 (vp_updL (w 2) 6 s.2)) t) (fun (s : Nat × Int64) => (65, [(0, .ref 2)], [])) (fun (s : Nat × Int64) => zH (zb v 2 (upd (v 2) 3 (nI s.1))) (zb w 2 (vp_updL (w 2) 6 s.2)) t) (zl_twG (v 3) E) (fun (s : Nat × Int64) => s.1 ≤ E) (fun (s : Nat × Int64) => E - s.1) (fun s s' hp hg => ?_) (fun s hp q hk => ?_) n s hP0 hn q hk
  · obtain ⟨k, va⟩ := s
    have hp : k ≤ E := hp
    show s'.1 ≤ E ∧ E - s'.1 < E - k
    unfold zl_twG at hg
    dsimp only at hg
    split at hg
    · cases hg
    · rename_i c1
      have hk := zk_ltN c1 (by omega)
      split at hg <;> first | (cases hg; done) | (cases hg; exact ⟨by dsimp only; omega, by dsimp only; omega⟩)
  · obtain ⟨k, va⟩ := s
    have hp : k ≤ E := hp
    show zk_T zk_mt zk_ex Ls xs zm_85 (0, [(0, .ref 2)], []) (zH (zb v 2 (upd (v 2) 3 (nI k))) (zb w 2 (vp_updL (w 2) 6 va)) t) q
    refine zk_T.adv 4 (f' := (8, [(0, .ref 2)], [.int (v 2 2), .int (nI k)])) (h' := zH (zb v 2 (upd (v 2) 3 (nI k))) (zb w 2 (vp_updL (w 2) 6 va)) t) rfl ?_
    rw [show (v 2 2) = nI E from hE]
    refine zk_T.br (f1 := (65, [(0, .ref 2)], [])) (f2 := (11, [(0, .ref 2)], [])) rfl (fun c1 => ?_) (fun c1 => ?_)
    · have c1 : (nI E) ≤ (nI k) := of_decide_eq_true c1
      simp only [zl_twG, zk_or, if_pos c1] at hk
      exact hk
    · have c1 : ¬ ((nI E) ≤ (nI k)) := of_decide_eq_false c1
      refine zk_T.adv 4 (f' := (19, [(0, .ref 2)], [.int (nI k), .ref 3])) (h' := zH (zb v 2 (upd (v 2) 3 (nI k))) (zb w 2 (vp_updL (w 2) 6 va)) t) rfl ?_
      refine zk_T.ob (f' := (20, [(0, .ref 2)], [.int (v 3 ((nI k)).toNatClampNeg)])) (h' := zH (zb v 2 (upd (v 2) 3 (nI k))) (zb w 2 (vp_updL (w 2) 6 va)) t) rfl (zk_inN (by have := zk_ltN c1 (by omega); omega) (by decide)) ?_
      rw [nI_clamp (show k < 2 ^ 31 by omega)]
      refine zk_T.cl (v := some (.int (zr_isLetter (v 3 k)))) (h' := zH (zb v 2 (upd (v 2) 3 (nI k))) (zb w 2 (vp_updL (w 2) 6 va)) t) rfl (zs_isLetter (v 3 k)) ?_
      show zk_T zk_mt zk_ex Ls xs zm_85 (23, [(0, .ref 2)], [.int (zr_isLetter (v 3 k))]) (zH (zb v 2 (upd (v 2) 3 (nI k))) (zb w 2 (vp_updL (w 2) 6 va)) t) _
      refine zk_T.br (f1 := (65, [(0, .ref 2)], [])) (f2 := (26, [(0, .ref 2)], [])) rfl (fun c2 => ?_) (fun c2 => ?_)
      · have c2 : (zr_isLetter (v 3 k)) = 0 := of_decide_eq_true c2
        simp only [zl_twG, zk_or, if_neg c1, if_pos c2] at hk
        exact hk
      · have c2 : ¬ ((zr_isLetter (v 3 k)) = 0) := of_decide_eq_false c2
        refine zk_T.adv 9 (f' := (41, [(0, .ref 2)], [.int (nI k), .ref 3, .long (va <<< ((5 : Int32).toInt64 &&& 63)), .ref 2])) (h' := zH (zb v 2 (upd (v 2) 3 (nI k))) (zb w 2 (vp_updL (w 2) 6 va)) t) rfl ?_
        refine zk_T.ob (f' := (42, [(0, .ref 2)], [.int (v 3 ((nI k)).toNatClampNeg), .long (va <<< ((5 : Int32).toInt64 &&& 63)), .ref 2])) (h' := zH (zb v 2 (upd (v 2) 3 (nI k))) (zb w 2 (vp_updL (w 2) 6 va)) t) rfl (zk_inN (by have := zk_ltN c1 (by omega); omega) (by decide)) ?_
        rw [nI_clamp (show k < 2 ^ 31 by omega)]
        refine zk_T.adv 12 (f' := (59, [(0, .ref 2)], [.int ((nI k) + 1), .ref 2])) (h' := zH (zb v 2 (upd (v 2) 3 (nI k))) (zb w 2 (vp_updL (w 2) 6 ((va <<< ((5 : Int32).toInt64 &&& 63)) ||| ((((v 3 k) - 97) + 1 : Int32).toInt64)))) t) rfl ?_
        rw [show (nI k) + 1 = nI (k + 1) from nI_add k 1]
        refine zk_T.adv 2 (f' := (0, [(0, .ref 2)], [])) (h' := zH (zb v 2 (upd (v 2) 3 (nI (k + 1)))) (zb w 2 (vp_updL (w 2) 6 ((va <<< ((5 : Int32).toInt64 &&& 63)) ||| ((((v 3 k) - 97) + 1 : Int32).toInt64)))) t) rfl ?_
        simp only [zl_twG, zk_or, if_neg c1, if_neg c2] at hk
        exact hk
def zr_takeWord (by_ : Nat → Int32) (E : Nat) (k : Nat) (st : Int32) (va : Int64) : Nat × Int32 × Int64 := if 8 < ((nI (zw (zl_twG (by_) E) (E + 1) (k, va)).1) - st) then ((zw (zl_twG (by_) E) (E + 1) (k, va)).1, 1, (zw (zl_twG (by_) E) (E + 1) (k, va)).2) else ((zw (zl_twG (by_) E) (E + 1) (k, va)).1, 2, (zw (zl_twG (by_) E) (E + 1) (k, va)).2)
/-- BasketKeep$Tape.takeWord -/
theorem zs_takeWord (E : Nat) (hE : v 2 2 = nI E) (hE9 : E ≤ 900) (k : Nat) (hkE : k ≤ E) : zk_Cr zk_mt zk_ex Ls xs 85 [.ref 2] (zH (zb v 2 (upd (v 2) 3 (nI k))) w t) (none, zH (zb v 2 (upd (upd (v 2) 3 (nI ((zr_takeWord (v 3) E k (v 2 5) (w 2 6)).1))) 4 ((zr_takeWord (v 3) E k (v 2 5) (w 2 6)).2.1))) (zb w 2 (vp_updL (w 2) 6 ((zr_takeWord (v 3) E k (v 2 5) (w 2 6)).2.2))) t) := by
  refine zk_Cr.of (K := zm_85) rfl rfl rfl ?_
  show zk_T zk_mt zk_ex Ls xs zm_85 (0, [(0, .ref 2)], []) (zH (zb v 2 (upd (v 2) 3 (nI k))) w t) _
  refine zl_tw (v := v) E hE hE9 (E + 1) (k, (w 2 6)) _ hkE (by omega) ?_
  show zk_T zk_mt zk_ex Ls xs zm_85 (65, [(0, .ref 2)], []) (zH (zb v 2 (upd (v 2) 3 (nI (zw (zl_twG (v 3) E) (E + 1) (k, (w 2 6))).1))) (zb w 2 (vp_updL (w 2) 6 ((zw (zl_twG (v 3) E) (E + 1) (k, (w 2 6))).2))) t) _
  refine zk_T.adv 7 (f' := (77, [(0, .ref 2)], [.int 8, .int ((nI (zw (zl_twG (v 3) E) (E + 1) (k, (w 2 6))).1) - (v 2 5)), .ref 2])) (h' := zH (zb v 2 (upd (v 2) 3 (nI (zw (zl_twG (v 3) E) (E + 1) (k, (w 2 6))).1))) (zb w 2 (vp_updL (w 2) 6 ((zw (zl_twG (v 3) E) (E + 1) (k, (w 2 6))).2))) t) rfl ?_
  refine zk_T.br (f1 := (84, [(0, .ref 2)], [.ref 2])) (f2 := (80, [(0, .ref 2)], [.ref 2])) rfl (fun c1 => ?_) (fun c1 => ?_)
  · have c1 : 8 < ((nI (zw (zl_twG (v 3) E) (E + 1) (k, (w 2 6))).1) - (v 2 5)) := of_decide_eq_true c1
    refine zk_T.adv 2 (f' := (88, [(0, .ref 2)], [])) (h' := zH (zb v 2 (upd (upd (v 2) 3 (nI (zw (zl_twG (v 3) E) (E + 1) (k, (w 2 6))).1)) 4 1)) (zb w 2 (vp_updL (w 2) 6 ((zw (zl_twG (v 3) E) (E + 1) (k, (w 2 6))).2))) t) rfl ?_
    exact zk_T.rt rfl rfl (by simp only [zr_takeWord, if_pos c1] <;> rfl)
  · have c1 : ¬ (8 < ((nI (zw (zl_twG (v 3) E) (E + 1) (k, (w 2 6))).1) - (v 2 5))) := of_decide_eq_false c1
    refine zk_T.adv 3 (f' := (88, [(0, .ref 2)], [])) (h' := zH (zb v 2 (upd (upd (v 2) 3 (nI (zw (zl_twG (v 3) E) (E + 1) (k, (w 2 6))).1)) 4 2)) (zb w 2 (vp_updL (w 2) 6 ((zw (zl_twG (v 3) E) (E + 1) (k, (w 2 6))).2))) t) rfl ?_
    exact zk_T.rt rfl rfl (by simp only [zr_takeWord, if_neg c1] <;> rfl)
def zl_tnG (by_ : Nat → Int32) (E : Nat) (s : Nat × Int64) : (Nat × Int64) ⊕ (Nat × Int64) := match s with
  | (k, va) => if (nI E) ≤ (nI k) then .inr (k, va) else (if (zr_isDigit (by_ k)) = 0 then .inr (k, va) else .inl ((k + 1), ((va * ((10 : Int32).toInt64)) + (((by_ k) : Int32).toInt64)) - ((48 : Int32).toInt64)))
theorem zl_tn (E : Nat) (hE : v 2 2 = nI E) (hE9 : E ≤ 900) : ∀ (n : Nat) (s : Nat × Int64) (q : Option Value × zk_H), s.1 ≤ E → E - s.1 < n → zk_T zk_mt zk_ex Ls xs zm_84 ((fun (s : Nat × Int64) => ((66, [(0, .ref 2)], []) : zk_F)) (zw (zl_tnG (v 3) E) n s)) ((fun (s : Nat × Int64) => zH (zb v 2 (upd (v 2) 3 (nI s.1))) (zb w 2 (vp_updL (w 2) 6 s.2)) t) (zw (zl_tnG (v 3) E) n s)) q → zk_T zk_mt zk_ex Ls xs zm_84 (0, [(0, .ref 2)], []) (zH (zb v 2 (upd (v 2) 3 (nI s.1))) (zb w 2 (vp_updL (w 2) 6 s.2)) t) q := by
  intro n s q hP0 hn hk
  refine zk_whl (M := zm_84) (fun (s : Nat × Int64) => (0, [(0, .ref 2)], [])) (fun (s : Nat × Int64) => zH (zb v 2 (upd (v 2) 3 (nI s.1))) (zb w 2 (vp_updL (w 2) 6 s.2)) t) (fun (s : Nat × Int64) => (66, [(0, .ref 2)], [])) (fun (s : Nat × Int64) => zH (zb v 2 (upd (v 2) 3 (nI s.1))) (zb w 2 (vp_updL (w 2) 6 s.2)) t) (zl_tnG (v 3) E) (fun (s : Nat × Int64) => s.1 ≤ E) (fun (s : Nat × Int64) => E - s.1) (fun s s' hp hg => ?_) (fun s hp q hk => ?_) n s hP0 hn q hk
  · obtain ⟨k, va⟩ := s
    have hp : k ≤ E := hp
    show s'.1 ≤ E ∧ E - s'.1 < E - k
    unfold zl_tnG at hg
    dsimp only at hg
    split at hg
    · cases hg
    · rename_i c1
      have hk := zk_ltN c1 (by omega)
      split at hg <;> first | (cases hg; done) | (cases hg; exact ⟨by dsimp only; omega, by dsimp only; omega⟩)
  · obtain ⟨k, va⟩ := s
    have hp : k ≤ E := hp
    show zk_T zk_mt zk_ex Ls xs zm_84 (0, [(0, .ref 2)], []) (zH (zb v 2 (upd (v 2) 3 (nI k))) (zb w 2 (vp_updL (w 2) 6 va)) t) q
    refine zk_T.adv 4 (f' := (8, [(0, .ref 2)], [.int (v 2 2), .int (nI k)])) (h' := zH (zb v 2 (upd (v 2) 3 (nI k))) (zb w 2 (vp_updL (w 2) 6 va)) t) rfl ?_
    rw [show (v 2 2) = nI E from hE]
    refine zk_T.br (f1 := (66, [(0, .ref 2)], [])) (f2 := (11, [(0, .ref 2)], [])) rfl (fun c1 => ?_) (fun c1 => ?_)
    · have c1 : (nI E) ≤ (nI k) := of_decide_eq_true c1
      simp only [zl_tnG, zk_or, if_pos c1] at hk
      exact hk
    · have c1 : ¬ ((nI E) ≤ (nI k)) := of_decide_eq_false c1
      refine zk_T.adv 4 (f' := (19, [(0, .ref 2)], [.int (nI k), .ref 3])) (h' := zH (zb v 2 (upd (v 2) 3 (nI k))) (zb w 2 (vp_updL (w 2) 6 va)) t) rfl ?_
      refine zk_T.ob (f' := (20, [(0, .ref 2)], [.int (v 3 ((nI k)).toNatClampNeg)])) (h' := zH (zb v 2 (upd (v 2) 3 (nI k))) (zb w 2 (vp_updL (w 2) 6 va)) t) rfl (zk_inN (by have := zk_ltN c1 (by omega); omega) (by decide)) ?_
      rw [nI_clamp (show k < 2 ^ 31 by omega)]
      refine zk_T.cl (v := some (.int (zr_isDigit (v 3 k)))) (h' := zH (zb v 2 (upd (v 2) 3 (nI k))) (zb w 2 (vp_updL (w 2) 6 va)) t) rfl (zs_isDigit (v 3 k)) ?_
      show zk_T zk_mt zk_ex Ls xs zm_84 (23, [(0, .ref 2)], [.int (zr_isDigit (v 3 k))]) (zH (zb v 2 (upd (v 2) 3 (nI k))) (zb w 2 (vp_updL (w 2) 6 va)) t) _
      refine zk_T.br (f1 := (66, [(0, .ref 2)], [])) (f2 := (26, [(0, .ref 2)], [])) rfl (fun c2 => ?_) (fun c2 => ?_)
      · have c2 : (zr_isDigit (v 3 k)) = 0 := of_decide_eq_true c2
        simp only [zl_tnG, zk_or, if_neg c1, if_pos c2] at hk
        exact hk
      · have c2 : ¬ ((zr_isDigit (v 3 k)) = 0) := of_decide_eq_false c2
        refine zk_T.adv 9 (f' := (43, [(0, .ref 2)], [.int (nI k), .ref 3, .long (va * ((10 : Int32).toInt64)), .ref 2])) (h' := zH (zb v 2 (upd (v 2) 3 (nI k))) (zb w 2 (vp_updL (w 2) 6 va)) t) rfl ?_
        refine zk_T.ob (f' := (44, [(0, .ref 2)], [.int (v 3 ((nI k)).toNatClampNeg), .long (va * ((10 : Int32).toInt64)), .ref 2])) (h' := zH (zb v 2 (upd (v 2) 3 (nI k))) (zb w 2 (vp_updL (w 2) 6 va)) t) rfl (zk_inN (by have := zk_ltN c1 (by omega); omega) (by decide)) ?_
        rw [nI_clamp (show k < 2 ^ 31 by omega)]
        refine zk_T.adv 10 (f' := (60, [(0, .ref 2)], [.int ((nI k) + 1), .ref 2])) (h' := zH (zb v 2 (upd (v 2) 3 (nI k))) (zb w 2 (vp_updL (w 2) 6 (((va * ((10 : Int32).toInt64)) + (((v 3 k) : Int32).toInt64)) - ((48 : Int32).toInt64)))) t) rfl ?_
        rw [show (nI k) + 1 = nI (k + 1) from nI_add k 1]
        refine zk_T.adv 2 (f' := (0, [(0, .ref 2)], [])) (h' := zH (zb v 2 (upd (v 2) 3 (nI (k + 1)))) (zb w 2 (vp_updL (w 2) 6 (((va * ((10 : Int32).toInt64)) + (((v 3 k) : Int32).toInt64)) - ((48 : Int32).toInt64)))) t) rfl ?_
        simp only [zl_tnG, zk_or, if_neg c1, if_neg c2] at hk
        exact hk
def zr_takeWhole (by_ : Nat → Int32) (E : Nat) (k : Nat) (st : Int32) (va : Int64) : Nat × Int32 × Int64 := if 3 < ((nI (zw (zl_tnG (by_) E) (E + 1) (k, va)).1) - st) then ((zw (zl_tnG (by_) E) (E + 1) (k, va)).1, 1, (zw (zl_tnG (by_) E) (E + 1) (k, va)).2) else ((zw (zl_tnG (by_) E) (E + 1) (k, va)).1, 3, (zw (zl_tnG (by_) E) (E + 1) (k, va)).2)
/-- BasketKeep$Tape.takeWhole -/
theorem zs_takeWhole (E : Nat) (hE : v 2 2 = nI E) (hE9 : E ≤ 900) (k : Nat) (hkE : k ≤ E) : zk_Cr zk_mt zk_ex Ls xs 84 [.ref 2] (zH (zb v 2 (upd (v 2) 3 (nI k))) w t) (none, zH (zb v 2 (upd (upd (v 2) 3 (nI ((zr_takeWhole (v 3) E k (v 2 5) (w 2 6)).1))) 4 ((zr_takeWhole (v 3) E k (v 2 5) (w 2 6)).2.1))) (zb w 2 (vp_updL (w 2) 6 ((zr_takeWhole (v 3) E k (v 2 5) (w 2 6)).2.2))) t) := by
  refine zk_Cr.of (K := zm_84) rfl rfl rfl ?_
  show zk_T zk_mt zk_ex Ls xs zm_84 (0, [(0, .ref 2)], []) (zH (zb v 2 (upd (v 2) 3 (nI k))) w t) _
  refine zl_tn (v := v) E hE hE9 (E + 1) (k, (w 2 6)) _ hkE (by omega) ?_
  show zk_T zk_mt zk_ex Ls xs zm_84 (66, [(0, .ref 2)], []) (zH (zb v 2 (upd (v 2) 3 (nI (zw (zl_tnG (v 3) E) (E + 1) (k, (w 2 6))).1))) (zb w 2 (vp_updL (w 2) 6 ((zw (zl_tnG (v 3) E) (E + 1) (k, (w 2 6))).2))) t) _
  refine zk_T.adv 7 (f' := (77, [(0, .ref 2)], [.int 3, .int ((nI (zw (zl_tnG (v 3) E) (E + 1) (k, (w 2 6))).1) - (v 2 5)), .ref 2])) (h' := zH (zb v 2 (upd (v 2) 3 (nI (zw (zl_tnG (v 3) E) (E + 1) (k, (w 2 6))).1))) (zb w 2 (vp_updL (w 2) 6 ((zw (zl_tnG (v 3) E) (E + 1) (k, (w 2 6))).2))) t) rfl ?_
  refine zk_T.br (f1 := (84, [(0, .ref 2)], [.ref 2])) (f2 := (80, [(0, .ref 2)], [.ref 2])) rfl (fun c1 => ?_) (fun c1 => ?_)
  · have c1 : 3 < ((nI (zw (zl_tnG (v 3) E) (E + 1) (k, (w 2 6))).1) - (v 2 5)) := of_decide_eq_true c1
    refine zk_T.adv 2 (f' := (88, [(0, .ref 2)], [])) (h' := zH (zb v 2 (upd (upd (v 2) 3 (nI (zw (zl_tnG (v 3) E) (E + 1) (k, (w 2 6))).1)) 4 1)) (zb w 2 (vp_updL (w 2) 6 ((zw (zl_tnG (v 3) E) (E + 1) (k, (w 2 6))).2))) t) rfl ?_
    exact zk_T.rt rfl rfl (by simp only [zr_takeWhole, if_pos c1] <;> rfl)
  · have c1 : ¬ (3 < ((nI (zw (zl_tnG (v 3) E) (E + 1) (k, (w 2 6))).1) - (v 2 5))) := of_decide_eq_false c1
    refine zk_T.adv 3 (f' := (88, [(0, .ref 2)], [])) (h' := zH (zb v 2 (upd (upd (v 2) 3 (nI (zw (zl_tnG (v 3) E) (E + 1) (k, (w 2 6))).1)) 4 3)) (zb w 2 (vp_updL (w 2) 6 ((zw (zl_tnG (v 3) E) (E + 1) (k, (w 2 6))).2))) t) rfl ?_
    exact zk_T.rt rfl rfl (by simp only [zr_takeWhole, if_neg c1] <;> rfl)
def zr_takeSign (by_ : Nat → Int32) (k : Nat) : Nat × Int32 := if (by_ k) = 59 then ((k + 1), 4) else (if (by_ k) = 44 then ((k + 1), 5) else ((k + 1), 1))
/-- BasketKeep$Tape.takeSign -/
theorem zs_takeSign (k : Nat) (hk9 : k < 900) : zk_Cr zk_mt zk_ex Ls xs 16 [.ref 2] (zH (zb v 2 (upd (v 2) 3 (nI k))) w t) (none, zH (zb v 2 (upd (upd (v 2) 3 (nI ((zr_takeSign (v 3) k).1))) 4 ((zr_takeSign (v 3) k).2))) w t) := by
  refine zk_Cr.of (K := zm_16) rfl rfl rfl ?_
  show zk_T zk_mt zk_ex Ls xs zm_16 (0, [(0, .ref 2)], []) (zH (zb v 2 (upd (v 2) 3 (nI k))) w t) _
  refine zk_T.adv 4 (f' := (8, [(0, .ref 2)], [.int (nI k), .ref 3])) (h' := zH (zb v 2 (upd (v 2) 3 (nI k))) w t) rfl ?_
  refine zk_T.ob (f' := (9, [(0, .ref 2)], [.int (v 3 ((nI k)).toNatClampNeg)])) (h' := zH (zb v 2 (upd (v 2) 3 (nI k))) w t) rfl (by first | exact zk_inN (by omega) (by decide) | decide) ?_
  rw [nI_clamp (show k < 2 ^ 31 by omega)]
  refine zk_T.adv 6 (f' := (17, [(0, .ref 2), (1, .int (v 3 k))], [.int ((nI k) + 1), .ref 2])) (h' := zH (zb v 2 (upd (v 2) 3 (nI k))) w t) rfl ?_
  rw [show (nI k) + 1 = nI (k + 1) from nI_add k 1]
  refine zk_T.adv 4 (f' := (24, [(0, .ref 2), (1, .int (v 3 k))], [.int 59, .int (v 3 k), .ref 2])) (h' := zH (zb v 2 (upd (v 2) 3 (nI (k + 1)))) w t) rfl ?_
  refine zk_T.br (f1 := (27, [(0, .ref 2), (1, .int (v 3 k))], [.ref 2])) (f2 := (31, [(0, .ref 2), (1, .int (v 3 k))], [.ref 2])) rfl (fun c1 => ?_) (fun c1 => ?_)
  · have c1 : (v 3 k) = 59 := of_decide_eq_true c1
    refine zk_T.adv 3 (f' := (45, [(0, .ref 2), (1, .int (v 3 k))], [])) (h' := zH (zb v 2 (upd (upd (v 2) 3 (nI (k + 1))) 4 4)) w t) rfl ?_
    exact zk_T.rt rfl rfl (by simp only [zr_takeSign, if_pos c1] <;> rfl)
  · have c1 : ¬ ((v 3 k) = 59) := of_decide_eq_false c1
    refine zk_T.adv 2 (f' := (34, [(0, .ref 2), (1, .int (v 3 k))], [.int 44, .int (v 3 k), .ref 2])) (h' := zH (zb v 2 (upd (v 2) 3 (nI (k + 1)))) w t) rfl ?_
    refine zk_T.br (f1 := (37, [(0, .ref 2), (1, .int (v 3 k))], [.ref 2])) (f2 := (41, [(0, .ref 2), (1, .int (v 3 k))], [.ref 2])) rfl (fun c2 => ?_) (fun c2 => ?_)
    · have c2 : (v 3 k) = 44 := of_decide_eq_true c2
      refine zk_T.adv 3 (f' := (45, [(0, .ref 2), (1, .int (v 3 k))], [])) (h' := zH (zb v 2 (upd (upd (v 2) 3 (nI (k + 1))) 4 5)) w t) rfl ?_
      exact zk_T.rt rfl rfl (by simp only [zr_takeSign, if_neg c1, if_pos c2] <;> rfl)
    · have c2 : ¬ ((v 3 k) = 44) := of_decide_eq_false c2
      refine zk_T.adv 2 (f' := (45, [(0, .ref 2), (1, .int (v 3 k))], [])) (h' := zH (zb v 2 (upd (upd (v 2) 3 (nI (k + 1))) 4 1)) w t) rfl ?_
      exact zk_T.rt rfl rfl (by simp only [zr_takeSign, if_neg c1, if_neg c2] <;> rfl)
def zl_skG (by_ : Nat → Int32) (E : Nat) (s : Nat) : (Nat) ⊕ (Nat) := match s with
  | k => if (nI E) ≤ (nI k) then .inr k else (if (by_ k) = 32 then .inl (k + 1) else .inr k)
theorem zl_sk (E : Nat) (hE : v 2 2 = nI E) (hE9 : E ≤ 900) : ∀ (n : Nat) (s : Nat) (q : Option Value × zk_H), s ≤ E → E - s < n → zk_T zk_mt zk_ex Ls xs zm_153 ((fun (s : Nat) => ((38, [(0, .ref 2)], []) : zk_F)) (zw (zl_skG (v 3) E) n s)) ((fun (s : Nat) => zH (zb v 2 (upd (v 2) 3 (nI s))) w t) (zw (zl_skG (v 3) E) n s)) q → zk_T zk_mt zk_ex Ls xs zm_153 (0, [(0, .ref 2)], []) (zH (zb v 2 (upd (v 2) 3 (nI s))) w t) q := by
  intro n s q hP0 hn hk
  refine zk_whl (M := zm_153) (fun (s : Nat) => (0, [(0, .ref 2)], [])) (fun (s : Nat) => zH (zb v 2 (upd (v 2) 3 (nI s))) w t) (fun (s : Nat) => (38, [(0, .ref 2)], [])) (fun (s : Nat) => zH (zb v 2 (upd (v 2) 3 (nI s))) w t) (zl_skG (v 3) E) (fun (s : Nat) => s ≤ E) (fun (s : Nat) => E - s) (fun s s' hp hg => ?_) (fun s hp q hk => ?_) n s hP0 hn q hk
  · obtain ⟨k, rfl⟩ : ∃ z, z = s := ⟨_, rfl⟩
    have hp : k ≤ E := hp
    show s' ≤ E ∧ E - s' < E - k
    unfold zl_skG at hg
    dsimp only at hg
    split at hg
    · cases hg
    · rename_i c1
      have hk := zk_ltN c1 (by omega)
      split at hg <;> first | (cases hg; done) | (cases hg; exact ⟨by omega, by omega⟩)
  · obtain ⟨k, rfl⟩ : ∃ z, z = s := ⟨_, rfl⟩
    have hp : k ≤ E := hp
    show zk_T zk_mt zk_ex Ls xs zm_153 (0, [(0, .ref 2)], []) (zH (zb v 2 (upd (v 2) 3 (nI k))) w t) q
    refine zk_T.adv 4 (f' := (8, [(0, .ref 2)], [.int (v 2 2), .int (nI k)])) (h' := zH (zb v 2 (upd (v 2) 3 (nI k))) w t) rfl ?_
    rw [show (v 2 2) = nI E from hE]
    refine zk_T.br (f1 := (38, [(0, .ref 2)], [])) (f2 := (11, [(0, .ref 2)], [])) rfl (fun c1 => ?_) (fun c1 => ?_)
    · have c1 : (nI E) ≤ (nI k) := of_decide_eq_true c1
      simp only [zl_skG, zk_or, if_pos c1] at hk
      exact hk
    · have c1 : ¬ ((nI E) ≤ (nI k)) := of_decide_eq_false c1
      refine zk_T.adv 4 (f' := (19, [(0, .ref 2)], [.int (nI k), .ref 3])) (h' := zH (zb v 2 (upd (v 2) 3 (nI k))) w t) rfl ?_
      refine zk_T.ob (f' := (20, [(0, .ref 2)], [.int (v 3 ((nI k)).toNatClampNeg)])) (h' := zH (zb v 2 (upd (v 2) 3 (nI k))) w t) rfl (zk_inN (by have := zk_ltN c1 (by omega); omega) (by decide)) ?_
      rw [nI_clamp (show k < 2 ^ 31 by omega)]
      refine zk_T.adv 1 (f' := (22, [(0, .ref 2)], [.int 32, .int (v 3 k)])) (h' := zH (zb v 2 (upd (v 2) 3 (nI k))) w t) rfl ?_
      refine zk_T.br (f1 := (25, [(0, .ref 2)], [])) (f2 := (38, [(0, .ref 2)], [])) rfl (fun c2 => ?_) (fun c2 => ?_)
      · have c2 : (v 3 k) = 32 := of_decide_eq_true c2
        refine zk_T.adv 5 (f' := (32, [(0, .ref 2)], [.int ((nI k) + 1), .ref 2])) (h' := zH (zb v 2 (upd (v 2) 3 (nI k))) w t) rfl ?_
        rw [show (nI k) + 1 = nI (k + 1) from nI_add k 1]
        refine zk_T.adv 2 (f' := (0, [(0, .ref 2)], [])) (h' := zH (zb v 2 (upd (v 2) 3 (nI (k + 1)))) w t) rfl ?_
        simp only [zl_skG, zk_or, if_neg c1, if_pos c2] at hk
        exact hk
      · have c2 : ¬ ((v 3 k) = 32) := of_decide_eq_false c2
        simp only [zl_skG, zk_or, if_neg c1, if_neg c2] at hk
        exact hk
theorem zl_skE {by_ : Nat → Int32} {E : Nat} (hE : E ≤ 900) {n k : Nat} (h : k ≤ E) : zw (zl_skG by_ E) n k ≤ E := by
  refine zw_inv (P := fun k => k ≤ E) ?_ ?_ n k h
  all_goals
    intro s s' hp hg
    unfold zl_skG at hg
    dsimp only at hg
    split at hg
    · cases hg <;> exact hp
    · rename_i c1
      have hk := zk_ltN c1 (by omega)
      split at hg <;> first | (cases hg; done) | (cases hg; omega) | (cases hg; exact hp)
def zr_advance (by_ : Nat → Int32) (E : Nat) (k : Nat) : Nat × Int32 × Nat × Int64 := if (nI (zw (zl_skG by_ E) (E + 1) k)) < (nI E) then if (zr_isLetter (by_ (zw (zl_skG by_ E) (E + 1) k))) = 0 then if (zr_isDigit (by_ (zw (zl_skG by_ E) (E + 1) k))) = 0 then (((zr_takeSign (by_) (zw (zl_skG by_ E) (E + 1) k)).1), (zr_takeSign (by_) (zw (zl_skG by_ E) (E + 1) k)).2, (zw (zl_skG by_ E) (E + 1) k), 0) else (((zr_takeWhole (by_) E (zw (zl_skG by_ E) (E + 1) k) (nI (zw (zl_skG by_ E) (E + 1) k)) 0).1), (zr_takeWhole (by_) E (zw (zl_skG by_ E) (E + 1) k) (nI (zw (zl_skG by_ E) (E + 1) k)) 0).2.1, (zw (zl_skG by_ E) (E + 1) k), (zr_takeWhole (by_) E (zw (zl_skG by_ E) (E + 1) k) (nI (zw (zl_skG by_ E) (E + 1) k)) 0).2.2) else (((zr_takeWord (by_) E (zw (zl_skG by_ E) (E + 1) k) (nI (zw (zl_skG by_ E) (E + 1) k)) 0).1), (zr_takeWord (by_) E (zw (zl_skG by_ E) (E + 1) k) (nI (zw (zl_skG by_ E) (E + 1) k)) 0).2.1, (zw (zl_skG by_ E) (E + 1) k), (zr_takeWord (by_) E (zw (zl_skG by_ E) (E + 1) k) (nI (zw (zl_skG by_ E) (E + 1) k)) 0).2.2) else ((zw (zl_skG by_ E) (E + 1) k), 0, (zw (zl_skG by_ E) (E + 1) k), 0)
/-- BasketKeep$Tape.advance -/
theorem zs_advance (E : Nat) (hE : v 2 2 = nI E) (hE9 : E ≤ 900) (k : Nat) (hkE : k ≤ E) : zk_Cr zk_mt zk_ex Ls xs 153 [.ref 2] (zH (zb v 2 (upd (v 2) 3 (nI k))) w t) (none, zH (zb v 2 (upd (upd (upd (v 2) 3 (nI ((zr_advance (v 3) E k).1))) 4 ((zr_advance (v 3) E k).2.1)) 5 (nI ((zr_advance (v 3) E k).2.2.1)))) (zb w 2 (vp_updL (w 2) 6 ((zr_advance (v 3) E k).2.2.2))) t) := by
  refine zk_Cr.of (K := zm_153) rfl rfl rfl ?_
  show zk_T zk_mt zk_ex Ls xs zm_153 (0, [(0, .ref 2)], []) (zH (zb v 2 (upd (v 2) 3 (nI k))) w t) _
  refine zl_sk (v := v) E hE hE9 (E + 1) k _ hkE (by omega) ?_
  obtain ⟨k2, hk2⟩ : ∃ z, z = zw (zl_skG (v 3) E) (E + 1) k := ⟨_, rfl⟩
  have hk2E : k2 ≤ E := by rw [hk2]; exact zl_skE hE9 hkE
  rw [← hk2]
  show zk_T zk_mt zk_ex Ls xs zm_153 (38, [(0, .ref 2)], []) (zH (zb v 2 (upd (v 2) 3 (nI k2))) w t) _
  refine zk_T.adv 11 (f' := (59, [(0, .ref 2)], [.int (v 2 2), .int (nI k2)])) (h' := zH (zb v 2 (upd (upd (v 2) 3 (nI k2)) 5 (nI k2))) (zb w 2 (vp_updL (w 2) 6 0)) t) rfl ?_
  rw [show (v 2 2) = nI E from hE]
  refine zk_T.br (f1 := (70, [(0, .ref 2)], [])) (f2 := (62, [(0, .ref 2)], [])) rfl (fun c1 => ?_) (fun c1 => ?_)
  · have c1 : (nI k2) < (nI E) := of_decide_eq_true c1
    refine zk_T.adv 4 (f' := (78, [(0, .ref 2)], [.int (nI k2), .ref 3])) (h' := zH (zb v 2 (upd (upd (v 2) 3 (nI k2)) 5 (nI k2))) (zb w 2 (vp_updL (w 2) 6 0)) t) rfl ?_
    refine zk_T.ob (f' := (79, [(0, .ref 2)], [.int (v 3 ((nI k2)).toNatClampNeg)])) (h' := zH (zb v 2 (upd (upd (v 2) 3 (nI k2)) 5 (nI k2))) (zb w 2 (vp_updL (w 2) 6 0)) t) rfl (zk_inN (show k2 < 900 by have := zk_ltN (Int32.not_le.mpr c1) (by omega); omega) (by decide)) ?_
    rw [nI_clamp (show k2 < 2 ^ 31 by omega)]
    refine zk_T.cl (v := some (.int (zr_isLetter (v 3 k2)))) (h' := zH (zb v 2 (upd (upd (v 2) 3 (nI k2)) 5 (nI k2))) (zb w 2 (vp_updL (w 2) 6 0)) t) rfl (zs_isLetter (v 3 k2)) ?_
    show zk_T zk_mt zk_ex Ls xs zm_153 (82, [(0, .ref 2)], [.int (zr_isLetter (v 3 k2))]) (zH (zb v 2 (upd (upd (v 2) 3 (nI k2)) 5 (nI k2))) (zb w 2 (vp_updL (w 2) 6 0)) t) _
    refine zk_T.br (f1 := (92, [(0, .ref 2)], [])) (f2 := (85, [(0, .ref 2)], [])) rfl (fun c2 => ?_) (fun c2 => ?_)
    · have c2 : (zr_isLetter (v 3 k2)) = 0 := of_decide_eq_true c2
      refine zk_T.adv 4 (f' := (100, [(0, .ref 2)], [.int (nI k2), .ref 3])) (h' := zH (zb v 2 (upd (upd (v 2) 3 (nI k2)) 5 (nI k2))) (zb w 2 (vp_updL (w 2) 6 0)) t) rfl ?_
      refine zk_T.ob (f' := (101, [(0, .ref 2)], [.int (v 3 ((nI k2)).toNatClampNeg)])) (h' := zH (zb v 2 (upd (upd (v 2) 3 (nI k2)) 5 (nI k2))) (zb w 2 (vp_updL (w 2) 6 0)) t) rfl (zk_inN (show k2 < 900 by have := zk_ltN (Int32.not_le.mpr c1) (by omega); omega) (by decide)) ?_
      rw [nI_clamp (show k2 < 2 ^ 31 by omega)]
      refine zk_T.cl (v := some (.int (zr_isDigit (v 3 k2)))) (h' := zH (zb v 2 (upd (upd (v 2) 3 (nI k2)) 5 (nI k2))) (zb w 2 (vp_updL (w 2) 6 0)) t) rfl (zs_isDigit (v 3 k2)) ?_
      show zk_T zk_mt zk_ex Ls xs zm_153 (104, [(0, .ref 2)], [.int (zr_isDigit (v 3 k2))]) (zH (zb v 2 (upd (upd (v 2) 3 (nI k2)) 5 (nI k2))) (zb w 2 (vp_updL (w 2) 6 0)) t) _
      refine zk_T.br (f1 := (114, [(0, .ref 2)], [])) (f2 := (107, [(0, .ref 2)], [])) rfl (fun c3 => ?_) (fun c3 => ?_)
      · have c3 : (zr_isDigit (v 3 k2)) = 0 := of_decide_eq_true c3
        refine zk_T.adv 1 (f' := (115, [(0, .ref 2)], [.ref 2])) (h' := zH (zb v 2 (upd (upd (v 2) 3 (nI k2)) 5 (nI k2))) (zb w 2 (vp_updL (w 2) 6 0)) t) rfl ?_
        refine zk_T.cl (v := none) (h' := zH (zb v 2 (upd (upd (upd (v 2) 3 (nI ((zr_takeSign (v 3) k2).1))) 4 ((zr_takeSign (v 3) k2).2)) 5 (nI k2))) (zb w 2 (vp_updL (w 2) 6 0)) t) rfl (zs_takeSign (v := (zb v 2 (upd (upd (v 2) 3 (nI k2)) 5 (nI k2)))) (w := (zb w 2 (vp_updL (w 2) 6 0))) k2 (by have := zk_ltN (Int32.not_le.mpr c1) (by omega); omega)) ?_
        show zk_T zk_mt zk_ex Ls xs zm_153 (118, [(0, .ref 2)], []) (zH (zb v 2 (upd (upd (upd (v 2) 3 (nI ((zr_takeSign (v 3) k2).1))) 4 ((zr_takeSign (v 3) k2).2)) 5 (nI k2))) (zb w 2 (vp_updL (w 2) 6 0)) t) _
        exact zk_T.rt rfl rfl (by simp only [zr_advance, ← hk2, if_pos c1, if_pos c2, if_pos c3] <;> rfl)
      · have c3 : ¬ ((zr_isDigit (v 3 k2)) = 0) := of_decide_eq_false c3
        refine zk_T.adv 1 (f' := (108, [(0, .ref 2)], [.ref 2])) (h' := zH (zb v 2 (upd (upd (v 2) 3 (nI k2)) 5 (nI k2))) (zb w 2 (vp_updL (w 2) 6 0)) t) rfl ?_
        refine zk_T.cl (v := none) (h' := zH (zb v 2 (upd (upd (upd (v 2) 3 (nI ((zr_takeWhole (v 3) E k2 (nI k2) 0).1))) 4 ((zr_takeWhole (v 3) E k2 (nI k2) 0).2.1)) 5 (nI k2))) (zb w 2 (vp_updL (w 2) 6 ((zr_takeWhole (v 3) E k2 (nI k2) 0).2.2))) t) rfl (zs_takeWhole (v := (zb v 2 (upd (upd (v 2) 3 (nI k2)) 5 (nI k2)))) (w := (zb w 2 (vp_updL (w 2) 6 0))) E hE hE9 k2 (by omega)) ?_
        show zk_T zk_mt zk_ex Ls xs zm_153 (111, [(0, .ref 2)], []) (zH (zb v 2 (upd (upd (upd (v 2) 3 (nI ((zr_takeWhole (v 3) E k2 (nI k2) 0).1))) 4 ((zr_takeWhole (v 3) E k2 (nI k2) 0).2.1)) 5 (nI k2))) (zb w 2 (vp_updL (w 2) 6 ((zr_takeWhole (v 3) E k2 (nI k2) 0).2.2))) t) _
        refine zk_T.adv 1 (f' := (118, [(0, .ref 2)], [])) (h' := zH (zb v 2 (upd (upd (upd (v 2) 3 (nI ((zr_takeWhole (v 3) E k2 (nI k2) 0).1))) 4 ((zr_takeWhole (v 3) E k2 (nI k2) 0).2.1)) 5 (nI k2))) (zb w 2 (vp_updL (w 2) 6 ((zr_takeWhole (v 3) E k2 (nI k2) 0).2.2))) t) rfl ?_
        exact zk_T.rt rfl rfl (by simp only [zr_advance, ← hk2, if_pos c1, if_pos c2, if_neg c3] <;> rfl)
    · have c2 : ¬ ((zr_isLetter (v 3 k2)) = 0) := of_decide_eq_false c2
      refine zk_T.adv 1 (f' := (86, [(0, .ref 2)], [.ref 2])) (h' := zH (zb v 2 (upd (upd (v 2) 3 (nI k2)) 5 (nI k2))) (zb w 2 (vp_updL (w 2) 6 0)) t) rfl ?_
      refine zk_T.cl (v := none) (h' := zH (zb v 2 (upd (upd (upd (v 2) 3 (nI ((zr_takeWord (v 3) E k2 (nI k2) 0).1))) 4 ((zr_takeWord (v 3) E k2 (nI k2) 0).2.1)) 5 (nI k2))) (zb w 2 (vp_updL (w 2) 6 ((zr_takeWord (v 3) E k2 (nI k2) 0).2.2))) t) rfl (zs_takeWord (v := (zb v 2 (upd (upd (v 2) 3 (nI k2)) 5 (nI k2)))) (w := (zb w 2 (vp_updL (w 2) 6 0))) E hE hE9 k2 (by omega)) ?_
      show zk_T zk_mt zk_ex Ls xs zm_153 (89, [(0, .ref 2)], []) (zH (zb v 2 (upd (upd (upd (v 2) 3 (nI ((zr_takeWord (v 3) E k2 (nI k2) 0).1))) 4 ((zr_takeWord (v 3) E k2 (nI k2) 0).2.1)) 5 (nI k2))) (zb w 2 (vp_updL (w 2) 6 ((zr_takeWord (v 3) E k2 (nI k2) 0).2.2))) t) _
      refine zk_T.adv 1 (f' := (118, [(0, .ref 2)], [])) (h' := zH (zb v 2 (upd (upd (upd (v 2) 3 (nI ((zr_takeWord (v 3) E k2 (nI k2) 0).1))) 4 ((zr_takeWord (v 3) E k2 (nI k2) 0).2.1)) 5 (nI k2))) (zb w 2 (vp_updL (w 2) 6 ((zr_takeWord (v 3) E k2 (nI k2) 0).2.2))) t) rfl ?_
      exact zk_T.rt rfl rfl (by simp only [zr_advance, ← hk2, if_pos c1, if_neg c2] <;> rfl)
  · have c1 : ¬ ((nI k2) < (nI E)) := of_decide_eq_false c1
    refine zk_T.adv 4 (f' := (118, [(0, .ref 2)], [])) (h' := zH (zb v 2 (upd (upd (upd (v 2) 3 (nI k2)) 4 0) 5 (nI k2))) (zb w 2 (vp_updL (w 2) 6 0)) t) rfl ?_
    exact zk_T.rt rfl rfl (by simp only [zr_advance, ← hk2, if_neg c1] <;> rfl)
end Z40
