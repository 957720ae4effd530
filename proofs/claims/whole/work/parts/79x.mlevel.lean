/-! the reference's level -/
theorem zL_ext {D Mn Gn Un bg : Nat} {l l' : Nat → Nat → Int32} {fr fr' rd rd' : Nat → Int32} (h : zL D Mn Gn Un bg l fr rd) (hf : ∀ i, i < 53 → fr' i = fr i) (hr : ∀ i, i < 16 → rd' i = rd i) : zL D Mn Gn Un bg l fr' rd' := by
  obtain ⟨⟨c1, c2, c3, c4, c5, c6, c7, c8, c9⟩, hg, h6, hb, hz⟩ := h
  obtain ⟨a1, a2, a3, a4, a5, a6, a7, a8⟩ := c2
  refine ⟨⟨c1, ⟨a1, (hf 1 (by decide)).trans a2, a3, (hf 2 (by decide)).trans a4, a5, (hf 3 (by decide)).trans a6, a7, (hf 4 (by decide)).trans a8⟩, ?k3, ?k4, c5, ?k6, ?k7, ?k8, zI_s_ext c1.2.1 c1.2.2.1 c9 rfl rfl (fun _ _ => rfl) (fun _ _ => rfl) (fun _ _ => rfl) hr⟩, ?kg, (hf 6 (by decide)).trans h6, hb, hz⟩
  case k3 =>
    obtain ⟨b1, hh, b2, b3, b4⟩ := c3
    exact ⟨b1.trans (hf 5 (by decide)).symm, hh, b2, b3, (hf 0 (by decide)).trans b4⟩
  case k4 =>
    intro d hd
    rw [hf (7 + 2 * d) (by omega), hf (7 + 2 * d + 1) (by omega)]
    exact c4 d hd
  case k6 =>
    intro m hm
    rw [hf (23 + 2 * m) (by omega), hf (23 + 2 * m + 1) (by omega)]
    exact c6 m hm
  case k7 =>
    intro g hg2
    rw [hf (33 + 2 * g) (by omega), hf (33 + 2 * g + 1) (by omega), hf (49 + g) (by omega)]
    exact c7 g hg2
  case k8 =>
    intro u hu
    rw [hf (41 + 2 * u) (by omega), hf (41 + 2 * u + 1) (by omega)]
    exact c8 u hu
  case kg =>
    intro g h1 h2
    rw [hf (49 + g) (by omega), hr (10 + g) (by omega)]
    exact hg g h1 h2
/-- at the start nothing is read -/
theorem zL_0 {v0 : Nat → Nat → Int32} {fr rd : Nat → Int32} (h4 : v0 4 0 = 0 ∧ v0 4 1 = 0 ∧ v0 4 4 = 0 ∧ v0 4 8 = 0 ∧ v0 4 13 = 0 ∧ v0 4 14 = 0) (hg : ∀ g, g < 4 → v0 12 g = -2 ∧ v0 13 g = 0) (h7 : ∀ e, e < 5 → v0 7 e = 0 ∨ v0 7 e = 1 ∨ v0 7 e = 2) (hf : ∀ i, i < 53 → fr i = 0) (hr : ∀ i, i < 16 → rd i = 0) : zL 0 0 0 0 0 v0 fr rd := by
  refine ⟨⟨⟨by decide, by decide, by decide, by decide⟩, ⟨h4.2.1, hf 1 (by decide), h4.2.2.1, hf 2 (by decide), h4.2.2.2.1, hf 3 (by decide), h4.2.2.2.2.2, hf 4 (by decide)⟩, ⟨h4.2.2.2.2.1.trans (hf 5 (by decide)).symm, 0, by decide, h4.1, hf 0 (by decide)⟩, fun d hd => by omega, h7, fun d hd => by omega, fun d hd => by omega, fun d hd => by omega, ⟨⟨0, by decide, rfl, hr 15 (by decide)⟩, (hr 14 (by decide)).symm, fun d hd => by omega, fun d _ hd => by omega, fun d hd => by omega, fun d hd => by omega⟩⟩, fun g _ h2 => ⟨(hg g h2).2, hf (49 + g) (by omega), (hg g h2).1, hr (10 + g) (by omega)⟩, hf 6 (by decide), Or.inl rfl, fun _ => ⟨rfl, rfl, rfl, rfl⟩⟩
theorem zRN0 {fr : Nat → Int32} (hf : ∀ i, i < 206 → fr i = 0) : zRN (fun _ => 0) fr := fun s hs => Or.inl ⟨rfl, hf (53 + s) (by omega)⟩
section Z69
variable {Ls : Nat} {xs : Nat → Int32} {v u : Nat → Nat → Int32} {w : Nat → Nat → Int64} {t : zk_H}
variable {E L : Nat}
theorem zn_c72 {y : Int32} {N : Nat} (hN : N = 206) : ∀ (m j : Nat) (f : Nat → Int32), j + m = N → (∀ i, i < j → f i = 0) → ∃ f', (∀ i, i < N → f' i = 0) ∧ ∀ Q : Option Value × zk_H → Prop, zx zk_mt zk_ex Ls xs zm_308 (59, [(0, .ref 69), (1, .int y), (2, .int (nI N))], []) (zH (zb u 72 f') w t) Q → zx zk_mt zk_ex Ls xs zm_308 (39, [(0, .ref 69), (1, .int y), (2, .int (nI j))], []) (zH (zb u 72 f) w t) Q := by
  intro m
  induction m with
  | zero =>
    intro j f hj hf
    refine ⟨f, fun i hi => hf i (by omega), fun Q hq => ?_⟩
    have hjN : j = N := by omega
    subst hjN
    refine zx.adv 2 (f' := (43, [(0, .ref 69), (1, .int y), (2, .int (nI j))], [.int 206, .int (nI j)])) (h' := zH (zb u 72 f) w t) rfl ?_
    refine zx.br (f1 := (59, [(0, .ref 69), (1, .int y), (2, .int (nI j))], [])) (f2 := (46, [(0, .ref 69), (1, .int y), (2, .int (nI j))], [])) rfl (fun c1 => ?_) (fun c1 => absurd (show (206 : Int32) ≤ nI j from nI_le (a := 206) (by omega) (by omega)) (of_decide_eq_false c1))
    exact hq
  | succ m ih =>
    intro j f hj hf
    obtain ⟨f', h1, hQ⟩ := ih (j + 1) (upd f j 0) (by omega) (fun i hi => by
      by_cases hij : i = j
      · subst hij; rw [pk_us]
      · rw [pk_un hij]; exact hf i (by omega))
    refine ⟨f', h1, fun Q hq => ?_⟩
    refine zx.adv 2 (f' := (43, [(0, .ref 69), (1, .int y), (2, .int (nI j))], [.int 206, .int (nI j)])) (h' := zH (zb u 72 f) w t) rfl ?_
    refine zx.br (f1 := (59, [(0, .ref 69), (1, .int y), (2, .int (nI j))], [])) (f2 := (46, [(0, .ref 69), (1, .int y), (2, .int (nI j))], [])) rfl (fun c1 => absurd (of_decide_eq_true c1) (show ¬ (206 : Int32) ≤ nI j from nI_ge (b := 206) (by omega) (by decide))) (fun c1 => ?_)
    refine zx.adv 4 (f' := (52, [(0, .ref 69), (1, .int y), (2, .int (nI j))], [.int 0, .int (nI j), .ref 73])) (h' := zH (zb u 72 f) w t) rfl ?_
    refine zx.ob (f' := (53, [(0, .ref 69), (1, .int y), (2, .int (nI j))], [])) (h' := zH (zb u 72 (upd f (nI j).toNatClampNeg 0)) w t) rfl (by first | exact zk_inN (by omega) (by decide) | decide) ?_
    rw [nI_clamp (show j < 2 ^ 31 by omega)]
    refine zx.adv 1 (f' := (56, [(0, .ref 69), (1, .int y), (2, .int ((nI j) + 1))], [])) (h' := zH (zb u 72 (upd f j 0)) w t) rfl ?_
    rw [show (nI j) + 1 = nI (j + 1) from nI_add j 1]
    refine zx.adv 1 (f' := (39, [(0, .ref 69), (1, .int y), (2, .int (nI (j + 1)))], [])) (h' := zH (zb u 72 (upd f j 0)) w t) rfl ?_
    exact hQ Q hq
theorem zn_c74 {y : Int32} {N : Nat} (hN : N = 16) : ∀ (m j : Nat) (f : Nat → Int32), j + m = N → (∀ i, i < j → f i = 0) → ∃ f', (∀ i, i < N → f' i = 0) ∧ ∀ Q : Option Value × zk_H → Prop, zx zk_mt zk_ex Ls xs zm_308 (80, [(0, .ref 69), (1, .int y), (2, .int (nI N))], []) (zH (zb u 74 f') w t) Q → zx zk_mt zk_ex Ls xs zm_308 (61, [(0, .ref 69), (1, .int y), (2, .int (nI j))], []) (zH (zb u 74 f) w t) Q := by
  intro m
  induction m with
  | zero =>
    intro j f hj hf
    refine ⟨f, fun i hi => hf i (by omega), fun Q hq => ?_⟩
    have hjN : j = N := by omega
    subst hjN
    refine zx.adv 2 (f' := (64, [(0, .ref 69), (1, .int y), (2, .int (nI j))], [.int 16, .int (nI j)])) (h' := zH (zb u 74 f) w t) rfl ?_
    refine zx.br (f1 := (80, [(0, .ref 69), (1, .int y), (2, .int (nI j))], [])) (f2 := (67, [(0, .ref 69), (1, .int y), (2, .int (nI j))], [])) rfl (fun c1 => ?_) (fun c1 => absurd (show (16 : Int32) ≤ nI j from nI_le (a := 16) (by omega) (by omega)) (of_decide_eq_false c1))
    exact hq
  | succ m ih =>
    intro j f hj hf
    obtain ⟨f', h1, hQ⟩ := ih (j + 1) (upd f j 0) (by omega) (fun i hi => by
      by_cases hij : i = j
      · subst hij; rw [pk_us]
      · rw [pk_un hij]; exact hf i (by omega))
    refine ⟨f', h1, fun Q hq => ?_⟩
    refine zx.adv 2 (f' := (64, [(0, .ref 69), (1, .int y), (2, .int (nI j))], [.int 16, .int (nI j)])) (h' := zH (zb u 74 f) w t) rfl ?_
    refine zx.br (f1 := (80, [(0, .ref 69), (1, .int y), (2, .int (nI j))], [])) (f2 := (67, [(0, .ref 69), (1, .int y), (2, .int (nI j))], [])) rfl (fun c1 => absurd (of_decide_eq_true c1) (show ¬ (16 : Int32) ≤ nI j from nI_ge (b := 16) (by omega) (by decide))) (fun c1 => ?_)
    refine zx.adv 4 (f' := (73, [(0, .ref 69), (1, .int y), (2, .int (nI j))], [.int 0, .int (nI j), .ref 75])) (h' := zH (zb u 74 f) w t) rfl ?_
    refine zx.ob (f' := (74, [(0, .ref 69), (1, .int y), (2, .int (nI j))], [])) (h' := zH (zb u 74 (upd f (nI j).toNatClampNeg 0)) w t) rfl (by first | exact zk_inN (by omega) (by decide) | decide) ?_
    rw [nI_clamp (show j < 2 ^ 31 by omega)]
    refine zx.adv 1 (f' := (77, [(0, .ref 69), (1, .int y), (2, .int ((nI j) + 1))], [])) (h' := zH (zb u 74 (upd f j 0)) w t) rfl ?_
    rw [show (nI j) + 1 = nI (j + 1) from nI_add j 1]
    refine zx.adv 1 (f' := (61, [(0, .ref 69), (1, .int y), (2, .int (nI (j + 1)))], [])) (h' := zH (zb u 74 (upd f j 0)) w t) rfl ?_
    exact hQ Q hq
theorem zn_cp71 {N : Nat} (hN : N = 206) : ∀ (m j : Nat) (f : Nat → Int32), j + m = N → (∀ i, i < j → f i = u 72 i) → ∃ f', (∀ i, i < N → f' i = u 72 i) ∧ ∀ Q : Option Value × zk_H → Prop, Q (none, zH (zb u 71 f') w t) → zx zk_mt zk_ex Ls xs zm_43 (3, [(0, .ref 73), (1, .int 0), (2, .ref 72), (3, .int 0), (4, .int 206), (5, .int (nI j))], []) (zH (zb u 71 f) w t) Q := by
  intro m
  induction m with
  | zero =>
    intro j f hj hf
    refine ⟨f, fun i hi => hf i (by omega), fun Q hq => ?_⟩
    refine zx.adv 2 (f' := (7, [(0, .ref 73), (1, .int 0), (2, .ref 72), (3, .int 0), (4, .int 206), (5, .int (nI j))], [.int 206, .int (nI j)])) (h' := zH (zb u 71 f) w t) rfl ?_
    refine zx.br (f1 := (28, [(0, .ref 73), (1, .int 0), (2, .ref 72), (3, .int 0), (4, .int 206), (5, .int (nI j))], [])) (f2 := (10, [(0, .ref 73), (1, .int 0), (2, .ref 72), (3, .int 0), (4, .int 206), (5, .int (nI j))], [])) rfl (fun c1 => ?_) (fun c1 => absurd (show (206 : Int32) ≤ nI j from nI_le (a := 206) (by omega) (by omega)) (of_decide_eq_false c1))
    exact zx.rt rfl rfl hq
  | succ m ih =>
    intro j f hj hf
    obtain ⟨f', h1, hQ⟩ := ih (j + 1) (upd f j (u 72 j)) (by omega) (fun i hi => by
      by_cases hij : i = j
      · subst hij; rw [pk_us]
      · rw [pk_un hij]; exact hf i (by omega))
    refine ⟨f', h1, fun Q hq => ?_⟩
    refine zx.adv 2 (f' := (7, [(0, .ref 73), (1, .int 0), (2, .ref 72), (3, .int 0), (4, .int 206), (5, .int (nI j))], [.int 206, .int (nI j)])) (h' := zH (zb u 71 f) w t) rfl ?_
    refine zx.br (f1 := (28, [(0, .ref 73), (1, .int 0), (2, .ref 72), (3, .int 0), (4, .int 206), (5, .int (nI j))], [])) (f2 := (10, [(0, .ref 73), (1, .int 0), (2, .ref 72), (3, .int 0), (4, .int 206), (5, .int (nI j))], [])) rfl (fun c1 => absurd (of_decide_eq_true c1) (show ¬ (206 : Int32) ≤ nI j from nI_ge (b := 206) (by omega) (by decide))) (fun c1 => ?_)
    refine zx.adv 4 (f' := (15, [(0, .ref 73), (1, .int 0), (2, .ref 72), (3, .int 0), (4, .int 206), (5, .int (nI j))], [.int (0 + (nI j)), .ref 72])) (h' := zH (zb u 71 f) w t) rfl ?_
    rw [show 0 + (nI j) = nI (0 + j) from nI_add 0 j]
    refine zx.adv 4 (f' := (20, [(0, .ref 73), (1, .int 0), (2, .ref 72), (3, .int 0), (4, .int 206), (5, .int (nI j))], [.int (0 + (nI j)), .ref 73, .int (nI (0 + j)), .ref 72])) (h' := zH (zb u 71 f) w t) rfl ?_
    rw [show 0 + (nI j) = nI (0 + j) from nI_add 0 j]
    refine zx.ob (f' := (21, [(0, .ref 73), (1, .int 0), (2, .ref 72), (3, .int 0), (4, .int 206), (5, .int (nI j))], [.int (u 72 (nI (0 + j)).toNatClampNeg), .int (nI (0 + j)), .ref 72])) (h' := zH (zb u 71 f) w t) rfl (by first | exact zk_inN (by omega) (by decide) | decide) ?_
    rw [nI_clamp (show (0 + j) < 2 ^ 31 by omega)]
    refine zx.ob (f' := (22, [(0, .ref 73), (1, .int 0), (2, .ref 72), (3, .int 0), (4, .int 206), (5, .int (nI j))], [])) (h' := zH (zb u 71 (upd f (nI (0 + j)).toNatClampNeg (u 72 (0 + j)))) w t) rfl (by first | exact zk_inN (by omega) (by decide) | decide) ?_
    rw [nI_clamp (show (0 + j) < 2 ^ 31 by omega)]
    refine zx.adv 1 (f' := (25, [(0, .ref 73), (1, .int 0), (2, .ref 72), (3, .int 0), (4, .int 206), (5, .int ((nI j) + 1))], [])) (h' := zH (zb u 71 (upd f (0 + j) (u 72 (0 + j)))) w t) rfl ?_
    rw [show (nI j) + 1 = nI (j + 1) from nI_add j 1]
    refine zx.adv 1 (f' := (3, [(0, .ref 73), (1, .int 0), (2, .ref 72), (3, .int 0), (4, .int 206), (5, .int (nI (j + 1)))], [])) (h' := zH (zb u 71 (upd f (0 + j) (u 72 (0 + j)))) w t) rfl ?_
    simp only [Nat.zero_add]
    exact hQ Q hq
theorem zs_cpx71 : ∃ f', (∀ i, i < 206 → f' i = u 72 i) ∧ zk_Cr zk_mt zk_ex Ls xs 43 [.ref 73, .int 0, .ref 72, .int 0, .int 206] (zH u w t) (none, zH (zb u 71 f') w t) := by
  obtain ⟨f', h1, hQ⟩ := zn_cp71 (w := w) (t := t) (Ls := Ls) (xs := xs) (u := u) (N := 206) rfl 206 0 (u 71) (by omega) (fun i hi => by omega)
  refine ⟨f', h1, zk_Cr.of (K := zm_43) rfl rfl rfl (zx.to ?_)⟩
  show zx zk_mt zk_ex Ls xs zm_43 (0, [(0, .ref 73), (1, .int 0), (2, .ref 72), (3, .int 0), (4, .int 206)], []) (zH u w t) _
  refine zx.adv 2 (f' := (3, [(0, .ref 73), (1, .int 0), (2, .ref 72), (3, .int 0), (4, .int 206), (5, .int 0)], [])) (h' := zH u w t) rfl ?_
  exact hQ _ rfl
theorem zn_cp73 {N : Nat} (hN : N = 16) : ∀ (m j : Nat) (f : Nat → Int32), j + m = N → (∀ i, i < j → f i = u 74 i) → ∃ f', (∀ i, i < N → f' i = u 74 i) ∧ ∀ Q : Option Value × zk_H → Prop, Q (none, zH (zb u 73 f') w t) → zx zk_mt zk_ex Ls xs zm_43 (3, [(0, .ref 75), (1, .int 0), (2, .ref 74), (3, .int 0), (4, .int 16), (5, .int (nI j))], []) (zH (zb u 73 f) w t) Q := by
  intro m
  induction m with
  | zero =>
    intro j f hj hf
    refine ⟨f, fun i hi => hf i (by omega), fun Q hq => ?_⟩
    refine zx.adv 2 (f' := (7, [(0, .ref 75), (1, .int 0), (2, .ref 74), (3, .int 0), (4, .int 16), (5, .int (nI j))], [.int 16, .int (nI j)])) (h' := zH (zb u 73 f) w t) rfl ?_
    refine zx.br (f1 := (28, [(0, .ref 75), (1, .int 0), (2, .ref 74), (3, .int 0), (4, .int 16), (5, .int (nI j))], [])) (f2 := (10, [(0, .ref 75), (1, .int 0), (2, .ref 74), (3, .int 0), (4, .int 16), (5, .int (nI j))], [])) rfl (fun c1 => ?_) (fun c1 => absurd (show (16 : Int32) ≤ nI j from nI_le (a := 16) (by omega) (by omega)) (of_decide_eq_false c1))
    exact zx.rt rfl rfl hq
  | succ m ih =>
    intro j f hj hf
    obtain ⟨f', h1, hQ⟩ := ih (j + 1) (upd f j (u 74 j)) (by omega) (fun i hi => by
      by_cases hij : i = j
      · subst hij; rw [pk_us]
      · rw [pk_un hij]; exact hf i (by omega))
    refine ⟨f', h1, fun Q hq => ?_⟩
    refine zx.adv 2 (f' := (7, [(0, .ref 75), (1, .int 0), (2, .ref 74), (3, .int 0), (4, .int 16), (5, .int (nI j))], [.int 16, .int (nI j)])) (h' := zH (zb u 73 f) w t) rfl ?_
    refine zx.br (f1 := (28, [(0, .ref 75), (1, .int 0), (2, .ref 74), (3, .int 0), (4, .int 16), (5, .int (nI j))], [])) (f2 := (10, [(0, .ref 75), (1, .int 0), (2, .ref 74), (3, .int 0), (4, .int 16), (5, .int (nI j))], [])) rfl (fun c1 => absurd (of_decide_eq_true c1) (show ¬ (16 : Int32) ≤ nI j from nI_ge (b := 16) (by omega) (by decide))) (fun c1 => ?_)
    refine zx.adv 4 (f' := (15, [(0, .ref 75), (1, .int 0), (2, .ref 74), (3, .int 0), (4, .int 16), (5, .int (nI j))], [.int (0 + (nI j)), .ref 74])) (h' := zH (zb u 73 f) w t) rfl ?_
    rw [show 0 + (nI j) = nI (0 + j) from nI_add 0 j]
    refine zx.adv 4 (f' := (20, [(0, .ref 75), (1, .int 0), (2, .ref 74), (3, .int 0), (4, .int 16), (5, .int (nI j))], [.int (0 + (nI j)), .ref 75, .int (nI (0 + j)), .ref 74])) (h' := zH (zb u 73 f) w t) rfl ?_
    rw [show 0 + (nI j) = nI (0 + j) from nI_add 0 j]
    refine zx.ob (f' := (21, [(0, .ref 75), (1, .int 0), (2, .ref 74), (3, .int 0), (4, .int 16), (5, .int (nI j))], [.int (u 74 (nI (0 + j)).toNatClampNeg), .int (nI (0 + j)), .ref 74])) (h' := zH (zb u 73 f) w t) rfl (by first | exact zk_inN (by omega) (by decide) | decide) ?_
    rw [nI_clamp (show (0 + j) < 2 ^ 31 by omega)]
    refine zx.ob (f' := (22, [(0, .ref 75), (1, .int 0), (2, .ref 74), (3, .int 0), (4, .int 16), (5, .int (nI j))], [])) (h' := zH (zb u 73 (upd f (nI (0 + j)).toNatClampNeg (u 74 (0 + j)))) w t) rfl (by first | exact zk_inN (by omega) (by decide) | decide) ?_
    rw [nI_clamp (show (0 + j) < 2 ^ 31 by omega)]
    refine zx.adv 1 (f' := (25, [(0, .ref 75), (1, .int 0), (2, .ref 74), (3, .int 0), (4, .int 16), (5, .int ((nI j) + 1))], [])) (h' := zH (zb u 73 (upd f (0 + j) (u 74 (0 + j)))) w t) rfl ?_
    rw [show (nI j) + 1 = nI (j + 1) from nI_add j 1]
    refine zx.adv 1 (f' := (3, [(0, .ref 75), (1, .int 0), (2, .ref 74), (3, .int 0), (4, .int 16), (5, .int (nI (j + 1)))], [])) (h' := zH (zb u 73 (upd f (0 + j) (u 74 (0 + j)))) w t) rfl ?_
    simp only [Nat.zero_add]
    exact hQ Q hq
theorem zs_cpx73 : ∃ f', (∀ i, i < 16 → f' i = u 74 i) ∧ zk_Cr zk_mt zk_ex Ls xs 43 [.ref 75, .int 0, .ref 74, .int 0, .int 16] (zH u w t) (none, zH (zb u 73 f') w t) := by
  obtain ⟨f', h1, hQ⟩ := zn_cp73 (w := w) (t := t) (Ls := Ls) (xs := xs) (u := u) (N := 16) rfl 16 0 (u 73) (by omega) (fun i hi => by omega)
  refine ⟨f', h1, zk_Cr.of (K := zm_43) rfl rfl rfl (zx.to ?_)⟩
  show zx zk_mt zk_ex Ls xs zm_43 (0, [(0, .ref 75), (1, .int 0), (2, .ref 74), (3, .int 0), (4, .int 16)], []) (zH u w t) _
  refine zx.adv 2 (f' := (3, [(0, .ref 75), (1, .int 0), (2, .ref 74), (3, .int 0), (4, .int 16), (5, .int 0)], [])) (h' := zH u w t) rfl ?_
  exact hQ _ rfl
theorem zn_cp75 {N : Nat} (hN : N = 16) : ∀ (m j : Nat) (f : Nat → Int32), j + m = N → (∀ i, i < j → f i = u 74 i) → ∃ f', (∀ i, i < N → f' i = u 74 i) ∧ ∀ Q : Option Value × zk_H → Prop, Q (none, zH (zb u 75 f') w t) → zx zk_mt zk_ex Ls xs zm_43 (3, [(0, .ref 75), (1, .int 0), (2, .ref 76), (3, .int 0), (4, .int 16), (5, .int (nI j))], []) (zH (zb u 75 f) w t) Q := by
  intro m
  induction m with
  | zero =>
    intro j f hj hf
    refine ⟨f, fun i hi => hf i (by omega), fun Q hq => ?_⟩
    refine zx.adv 2 (f' := (7, [(0, .ref 75), (1, .int 0), (2, .ref 76), (3, .int 0), (4, .int 16), (5, .int (nI j))], [.int 16, .int (nI j)])) (h' := zH (zb u 75 f) w t) rfl ?_
    refine zx.br (f1 := (28, [(0, .ref 75), (1, .int 0), (2, .ref 76), (3, .int 0), (4, .int 16), (5, .int (nI j))], [])) (f2 := (10, [(0, .ref 75), (1, .int 0), (2, .ref 76), (3, .int 0), (4, .int 16), (5, .int (nI j))], [])) rfl (fun c1 => ?_) (fun c1 => absurd (show (16 : Int32) ≤ nI j from nI_le (a := 16) (by omega) (by omega)) (of_decide_eq_false c1))
    exact zx.rt rfl rfl hq
  | succ m ih =>
    intro j f hj hf
    obtain ⟨f', h1, hQ⟩ := ih (j + 1) (upd f j (u 74 j)) (by omega) (fun i hi => by
      by_cases hij : i = j
      · subst hij; rw [pk_us]
      · rw [pk_un hij]; exact hf i (by omega))
    refine ⟨f', h1, fun Q hq => ?_⟩
    refine zx.adv 2 (f' := (7, [(0, .ref 75), (1, .int 0), (2, .ref 76), (3, .int 0), (4, .int 16), (5, .int (nI j))], [.int 16, .int (nI j)])) (h' := zH (zb u 75 f) w t) rfl ?_
    refine zx.br (f1 := (28, [(0, .ref 75), (1, .int 0), (2, .ref 76), (3, .int 0), (4, .int 16), (5, .int (nI j))], [])) (f2 := (10, [(0, .ref 75), (1, .int 0), (2, .ref 76), (3, .int 0), (4, .int 16), (5, .int (nI j))], [])) rfl (fun c1 => absurd (of_decide_eq_true c1) (show ¬ (16 : Int32) ≤ nI j from nI_ge (b := 16) (by omega) (by decide))) (fun c1 => ?_)
    refine zx.adv 4 (f' := (15, [(0, .ref 75), (1, .int 0), (2, .ref 76), (3, .int 0), (4, .int 16), (5, .int (nI j))], [.int (0 + (nI j)), .ref 76])) (h' := zH (zb u 75 f) w t) rfl ?_
    rw [show 0 + (nI j) = nI (0 + j) from nI_add 0 j]
    refine zx.adv 4 (f' := (20, [(0, .ref 75), (1, .int 0), (2, .ref 76), (3, .int 0), (4, .int 16), (5, .int (nI j))], [.int (0 + (nI j)), .ref 75, .int (nI (0 + j)), .ref 76])) (h' := zH (zb u 75 f) w t) rfl ?_
    rw [show 0 + (nI j) = nI (0 + j) from nI_add 0 j]
    refine zx.ob (f' := (21, [(0, .ref 75), (1, .int 0), (2, .ref 76), (3, .int 0), (4, .int 16), (5, .int (nI j))], [.int (u 74 (nI (0 + j)).toNatClampNeg), .int (nI (0 + j)), .ref 76])) (h' := zH (zb u 75 f) w t) rfl (by first | exact zk_inN (by omega) (by decide) | decide) ?_
    rw [nI_clamp (show (0 + j) < 2 ^ 31 by omega)]
    refine zx.ob (f' := (22, [(0, .ref 75), (1, .int 0), (2, .ref 76), (3, .int 0), (4, .int 16), (5, .int (nI j))], [])) (h' := zH (zb u 75 (upd f (nI (0 + j)).toNatClampNeg (u 74 (0 + j)))) w t) rfl (by first | exact zk_inN (by omega) (by decide) | decide) ?_
    rw [nI_clamp (show (0 + j) < 2 ^ 31 by omega)]
    refine zx.adv 1 (f' := (25, [(0, .ref 75), (1, .int 0), (2, .ref 76), (3, .int 0), (4, .int 16), (5, .int ((nI j) + 1))], [])) (h' := zH (zb u 75 (upd f (0 + j) (u 74 (0 + j)))) w t) rfl ?_
    rw [show (nI j) + 1 = nI (j + 1) from nI_add j 1]
    refine zx.adv 1 (f' := (3, [(0, .ref 75), (1, .int 0), (2, .ref 76), (3, .int 0), (4, .int 16), (5, .int (nI (j + 1)))], [])) (h' := zH (zb u 75 (upd f (0 + j) (u 74 (0 + j)))) w t) rfl ?_
    simp only [Nat.zero_add]
    exact hQ Q hq
theorem zs_cpx75 : ∃ f', (∀ i, i < 16 → f' i = u 74 i) ∧ zk_Cr zk_mt zk_ex Ls xs 43 [.ref 75, .int 0, .ref 76, .int 0, .int 16] (zH u w t) (none, zH (zb u 75 f') w t) := by
  obtain ⟨f', h1, hQ⟩ := zn_cp75 (w := w) (t := t) (Ls := Ls) (xs := xs) (u := u) (N := 16) rfl 16 0 (u 75) (by omega) (fun i hi => by omega)
  refine ⟨f', h1, zk_Cr.of (K := zm_43) rfl rfl rfl (zx.to ?_)⟩
  show zx zk_mt zk_ex Ls xs zm_43 (0, [(0, .ref 75), (1, .int 0), (2, .ref 76), (3, .int 0), (4, .int 16)], []) (zH u w t) _
  refine zx.adv 2 (f' := (3, [(0, .ref 75), (1, .int 0), (2, .ref 76), (3, .int 0), (4, .int 16), (5, .int 0)], [])) (h' := zH u w t) rfl ?_
  exact hQ _ rfl
/-- BasketKeepModel.level -/
theorem zM_level_t (x : Int32) (hw : zr_mwithin x 0 (v 68 2) = 0) : zk_Cr zk_mt zk_ex Ls xs 308 [.ref 69, .int x] (zH v w t) (some (.int (-1)), zH (zb v 68 (upd (upd (v 68) 0 0) 11 2)) w t) := by
  refine zk_Cr.of (K := zm_308) rfl rfl rfl ?_
  show zk_T zk_mt zk_ex Ls xs zm_308 (0, [(0, .ref 69), (1, .int x)], []) (zH v w t) _
  refine zk_T.adv 1 (f' := (1, [(0, .ref 69), (1, .int x)], [.ref 69])) (h' := zH v w t) rfl ?_
  refine zk_T.cl (v := none) (h' := zH (zb v 68 (upd (upd (v 68) 0 0) 11 0)) w t) rfl (zs_manew (v := v)) ?_
  show zk_T zk_mt zk_ex Ls xs zm_308 (4, [(0, .ref 69), (1, .int x)], []) (zH (zb v 68 (upd (upd (v 68) 0 0) 11 0)) w t) _
  refine zk_T.adv 4 (f' := (10, [(0, .ref 69), (1, .int x)], [.int (v 68 2), .int 0, .int x])) (h' := zH (zb v 68 (upd (upd (v 68) 0 0) 11 0)) w t) rfl ?_
  refine zk_T.cl (v := some (.int 0)) (h' := zH (zb v 68 (upd (upd (v 68) 0 0) 11 0)) w t) rfl (by have ee := zs_mwithin (v := (zb v 68 (upd (upd (v 68) 0 0) 11 0))) (w := w) (t := t) (Ls := Ls) (xs := xs) x 0 (v 68 2); rw [hw] at ee; exact ee) ?_
  show zk_T zk_mt zk_ex Ls xs zm_308 (13, [(0, .ref 69), (1, .int x)], [.int 0]) (zH (zb v 68 (upd (upd (v 68) 0 0) 11 0)) w t) _
  refine zk_T.br (f1 := (16, [(0, .ref 69), (1, .int x)], [])) (f2 := (22, [(0, .ref 69), (1, .int x)], [])) rfl (fun c1 => ?_) (fun c1 => absurd (by decide) (of_decide_eq_false c1))
  refine zk_T.adv 2 (f' := (18, [(0, .ref 69), (1, .int x)], [.int 2, .ref 69])) (h' := zH (zb v 68 (upd (upd (v 68) 0 0) 11 0)) w t) rfl ?_
  refine zk_T.cl (v := some (.int (-1))) (h' := zH (zb v 68 (upd (upd (v 68) 0 0) 11 2)) w t) rfl (zs_mno (v := (zb v 68 (upd (upd (v 68) 0 0) 11 0))) 2) ?_
  show zk_T zk_mt zk_ex Ls xs zm_308 (21, [(0, .ref 69), (1, .int x)], [.int (-1)]) (zH (zb v 68 (upd (upd (v 68) 0 0) 11 2)) w t) _
  exact zk_T.rt rfl rfl (by rfl)
theorem zn_lx (hf : u 68 13 = 1) : zx zk_mt zk_ex Ls xs zm_308 (193, [(0, .ref 69)], []) (zH u w t) (fun q => ∃ v', q = (some (.int (-1)), zH v' w t) ∧ (∀ r, r ≠ 68 → v' r = u r) ∧ v' 68 11 = 4 ∧ ∀ j, j ≠ 11 → v' 68 j = u 68 j) := by
  refine zx.adv 2 (f' := (197, [(0, .ref 69)], [.int (u 68 13)])) (h' := zH u w t) rfl ?_
  rw [show (u 68 13) = 1 from hf]
  refine zx.br (f1 := (206, [(0, .ref 69)], [])) (f2 := (200, [(0, .ref 69)], [])) rfl (fun c1 => absurd (of_decide_eq_true c1) (by decide)) (fun c1 => ?_)
  refine zx.adv 2 (f' := (202, [(0, .ref 69)], [.int 4, .ref 69])) (h' := zH u w t) rfl ?_
  refine zx.cl (v := some (.int (-1))) (h' := zH (zb u 68 (upd (u 68) 11 4)) w t) rfl (zs_mno (v := u) 4) ?_
  show zx zk_mt zk_ex Ls xs zm_308 (205, [(0, .ref 69)], [.int (-1)]) (zH (zb u 68 (upd (u 68) 11 4)) w t) _
  exact zx.rt rfl rfl ⟨(zb u 68 (upd (u 68) 11 4)), rfl, fun r hr => zb_un hr, rfl, fun j hj => pk_un hj⟩
theorem zn_lo {Gn : Nat} (hf : u 68 13 = 0) (hG : u 72 3 = nI Gn) : zx zk_mt zk_ex Ls xs zm_308 (193, [(0, .ref 69)], []) (zH u w t) (fun q => ∃ v', q = (some (.int (nI Gn)), zH v' w t) ∧ (∀ r, r ≠ 68 → r ≠ 71 → r ≠ 73 → r ≠ 75 → v' r = u r) ∧ (∀ i, i < 206 → v' 71 i = u 72 i) ∧ (∀ i, i < 16 → v' 73 i = u 74 i) ∧ (∀ i, i < 16 → v' 75 i = u 74 i) ∧ (v' 68 14 = 1 ∧ v' 68 23 = 0 ∧ v' 68 24 = 0) ∧ ∀ j, j ≠ 14 → j ≠ 23 → j ≠ 24 → v' 68 j = u 68 j) := by
  refine zx.adv 2 (f' := (197, [(0, .ref 69)], [.int (u 68 13)])) (h' := zH u w t) rfl ?_
  rw [show (u 68 13) = 0 from hf]
  refine zx.br (f1 := (206, [(0, .ref 69)], [])) (f2 := (200, [(0, .ref 69)], [])) rfl (fun c1 => ?_) (fun c1 => absurd (by decide) (of_decide_eq_false c1))
  refine zx.adv 7 (f' := (219, [(0, .ref 69)], [.int 206, .int 0, .ref 72, .int 0, .ref 73])) (h' := zH u w t) rfl ?_
  skip
  · obtain ⟨fr, hc71, qc71⟩ := zs_cpx71 (u := u) (w := w) (t := t) (Ls := Ls) (xs := xs)
    refine zx.cl (v := none) (h' := zH (zb u 71 fr) w t) rfl qc71 ?_
    show zx zk_mt zk_ex Ls xs zm_308 (222, [(0, .ref 69)], []) (zH (zb u 71 fr) w t) _
    refine zx.adv 7 (f' := (234, [(0, .ref 69)], [.int 16, .int 0, .ref 74, .int 0, .ref 75])) (h' := zH (zb u 71 fr) w t) rfl ?_
    skip
    · obtain ⟨ft, hc73, qc73⟩ := zs_cpx73 (u := (zb u 71 fr)) (w := w) (t := t) (Ls := Ls) (xs := xs)
      refine zx.cl (v := none) (h' := zH (zb (zb u 71 fr) 73 ft) w t) rfl qc73 ?_
      show zx zk_mt zk_ex Ls xs zm_308 (237, [(0, .ref 69)], []) (zH (zb (zb u 71 fr) 73 ft) w t) _
      refine zx.adv 7 (f' := (249, [(0, .ref 69)], [.int 16, .int 0, .ref 76, .int 0, .ref 75])) (h' := zH (zb (zb u 71 fr) 73 ft) w t) rfl ?_
      skip
      · obtain ⟨fs, hc75, qc75⟩ := zs_cpx75 (u := (zb (zb u 71 fr) 73 ft)) (w := w) (t := t) (Ls := Ls) (xs := xs)
        refine zx.cl (v := none) (h' := zH (zb (zb (zb u 71 fr) 73 ft) 75 fs) w t) rfl qc75 ?_
        show zx zk_mt zk_ex Ls xs zm_308 (252, [(0, .ref 69)], []) (zH (zb (zb (zb u 71 fr) 73 ft) 75 fs) w t) _
        refine zx.adv 2 (f' := (254, [(0, .ref 69)], [.int 1, .ref 69])) (h' := zH (zb (zb (zb u 71 fr) 73 ft) 75 fs) w t) rfl ?_
        refine zx.ob (f' := (257, [(0, .ref 69)], [])) (h' := zH (zb (zb (zb (zb u 68 (upd (u 68) 14 1)) 71 fr) 73 ft) 75 fs) w t) rfl rfl ?_
        refine zx.adv 9 (f' := (272, [(0, .ref 69)], [.int 3, .ref 72])) (h' := zH (zb (zb (zb (zb u 68 (upd (upd (upd (u 68) 14 1) 23 0) 24 0)) 71 fr) 73 ft) 75 fs) w t) rfl ?_
        refine zx.ob (f' := (273, [(0, .ref 69)], [.int (fr (3 : Int32).toNatClampNeg)])) (h' := zH (zb (zb (zb (zb u 68 (upd (upd (upd (u 68) 14 1) 23 0) 24 0)) 71 fr) 73 ft) 75 fs) w t) rfl rfl ?_
        show zx zk_mt zk_ex Ls xs zm_308 (273, [(0, .ref 69)], [.int (fr 3)]) (zH (zb (zb (zb (zb u 68 (upd (upd (upd (u 68) 14 1) 23 0) 24 0)) 71 fr) 73 ft) 75 fs) w t) _
        rw [show fr 3 = nI Gn from (hc71 3 (by decide)).trans hG]
        exact zx.rt rfl rfl ⟨(zb (zb (zb (zb u 68 (upd (upd (upd (u 68) 14 1) 23 0) 24 0)) 71 fr) 73 ft) 75 fs), rfl, fun r h1 h2 h3 h4 => ((zb_un (k := 75) (by omega)).trans ((zb_un (k := 73) (by omega)).trans ((zb_un (k := 71) (by omega)).trans ((zb_un (k := 68) (by omega)).trans rfl)))), hc71, hc73, hc75, ⟨rfl, rfl, rfl⟩, fun j h1 h2 h3 => ((pk_un (k := 24) (by omega)).trans ((pk_un (k := 23) (by omega)).trans ((pk_un (k := 14) (by omega)).trans rfl)))⟩
theorem zm_level (tn : Nat → Nat) (ts : Nat → Int32) (tp : Nat → Nat) (tv : Nat → Int64) {B : Nat → Int32} (hM : zk_MA Ls xs tn ts tp tv E B) (hT : zt_ok tn ts tv E) (hE9 : E ≤ 900) (hEL : E ≤ L) (hL9 : L ≤ 900) (hL : v 68 2 = nI L) (hB : v 69 = B) {l : Nat → Nat → Int32} (hL0 : ∀ fr rd : Nat → Int32, (∀ i, i < 53 → fr i = 0) → (∀ i, i < 16 → rd i = 0) → zL 0 0 0 0 0 l fr rd) : ∃ q, zk_Cr zk_mt zk_ex Ls xs 308 [.ref 69, .int (nI E)] (zH v w t) q ∧ ∃ v', match zp_read tn ts tp tv (E + 1) 0 0 0 0 0 0 l (fun _ => 0) with
    | .inr (f, p) => q = (some (.int (-1)), zH v' w t) ∧ (∀ r, r ≠ 68 → r ≠ 70 → r ≠ 72 → r ≠ 74 → v' r = v r) ∧ v' 68 11 = 4 ∧ v' 68 9 = f ∧ v' 68 10 = nI p ∧ v' 68 2 = 0 ∧ v' 68 14 = v 68 14 ∧ v' 68 23 = v 68 23 ∧ v' 68 24 = v 68 24
    | .inl (k, (D, Mn, Gn, Un, bg), l', S') => q = (some (.int (nI Gn)), zH v' w t) ∧ (∀ r, r ≠ 68 → r ≠ 70 → r ≠ 71 → r ≠ 72 → r ≠ 73 → r ≠ 74 → r ≠ 75 → v' r = v r) ∧ v' 68 11 = 0 ∧ v' 68 9 = 0 ∧ v' 68 2 = 0 ∧ v' 68 14 = 1 ∧ v' 68 23 = 0 ∧ v' 68 24 = 0 ∧ zL D Mn Gn Un bg l' (v' 71) (v' 73) ∧ (∀ i, i < 16 → v' 75 i = v' 73 i) := by
  have hwi : zr_mwithin (nI E) 0 (nI L) = 1 := by
    unfold zr_mwithin
    rw [if_neg (nI_pos (by omega)), if_neg (nI_nlt hEL (by omega))]
  refine zx.of (K := zm_308) rfl rfl rfl ?_
  show zx zk_mt zk_ex Ls xs zm_308 (0, [(0, .ref 69), (1, .int (nI E))], []) (zH v w t) _
  refine zx.adv 1 (f' := (1, [(0, .ref 69), (1, .int (nI E))], [.ref 69])) (h' := zH v w t) rfl ?_
  refine zx.cl (v := none) (h' := zH (zb v 68 (upd (upd (v 68) 0 0) 11 0)) w t) rfl (zs_manew (v := v)) ?_
  show zx zk_mt zk_ex Ls xs zm_308 (4, [(0, .ref 69), (1, .int (nI E))], []) (zH (zb v 68 (upd (upd (v 68) 0 0) 11 0)) w t) _
  refine zx.adv 4 (f' := (10, [(0, .ref 69), (1, .int (nI E))], [.int (v 68 2), .int 0, .int (nI E)])) (h' := zH (zb v 68 (upd (upd (v 68) 0 0) 11 0)) w t) rfl ?_
  rw [show (v 68 2) = nI L from hL]
  refine zx.cl (v := some (.int 1)) (h' := zH (zb v 68 (upd (upd (v 68) 0 0) 11 0)) w t) rfl (by have ee := zs_mwithin (v := (zb v 68 (upd (upd (v 68) 0 0) 11 0))) (w := w) (t := t) (Ls := Ls) (xs := xs) (nI E) 0 (nI L); rw [hwi] at ee; exact ee) ?_
  show zx zk_mt zk_ex Ls xs zm_308 (13, [(0, .ref 69), (1, .int (nI E))], [.int 1]) (zH (zb v 68 (upd (upd (v 68) 0 0) 11 0)) w t) _
  refine zx.br (f1 := (16, [(0, .ref 69), (1, .int (nI E))], [])) (f2 := (22, [(0, .ref 69), (1, .int (nI E))], [])) rfl (fun c1 => absurd (of_decide_eq_true c1) (by decide)) (fun c1 => ?_)
  refine zx.adv 8 (f' := (34, [(0, .ref 69), (1, .int (nI E))], [.int 0, .ref 69])) (h' := zH (zb v 68 (upd (upd (upd (upd (v 68) 0 0) 2 0) 9 0) 11 0)) w t) rfl ?_
  refine zx.ob (f' := (37, [(0, .ref 69), (1, .int (nI E))], [])) (h' := zH (zb v 68 (upd (upd (upd (upd (upd (v 68) 0 0) 2 0) 9 0) 11 0) 13 0)) w t) rfl rfl ?_
  refine zx.adv 2 (f' := (39, [(0, .ref 69), (1, .int (nI E)), (2, .int 0)], [])) (h' := zH (zb v 68 (upd (upd (upd (upd (upd (v 68) 0 0) 2 0) 9 0) 11 0) 13 0)) w t) rfl ?_
  obtain ⟨fa, hfa, hQa⟩ := zn_c72 (u := (zb v 68 (upd (upd (upd (upd (upd (v 68) 0 0) 2 0) 9 0) 11 0) 13 0))) (w := w) (t := t) (Ls := Ls) (xs := xs) (y := nI E) (N := 206) rfl 206 0 (v 72) (by omega) (fun i hi => by omega)
  refine hQa _ ?_
  show zx zk_mt zk_ex Ls xs zm_308 (59, [(0, .ref 69), (1, .int (nI E)), (2, .int (nI 206))], []) (zH (zb (zb v 68 (upd (upd (upd (upd (upd (v 68) 0 0) 2 0) 9 0) 11 0) 13 0)) 72 fa) w t) _
  refine zx.adv 2 (f' := (61, [(0, .ref 69), (1, .int (nI E)), (2, .int 0)], [])) (h' := zH (zb (zb v 68 (upd (upd (upd (upd (upd (v 68) 0 0) 2 0) 9 0) 11 0) 13 0)) 72 fa) w t) rfl ?_
  obtain ⟨fb, hfb, hQb⟩ := zn_c74 (u := (zb (zb v 68 (upd (upd (upd (upd (upd (v 68) 0 0) 2 0) 9 0) 11 0) 13 0)) 72 fa)) (w := w) (t := t) (Ls := Ls) (xs := xs) (y := nI E) (N := 16) rfl 16 0 (v 74) (by omega) (fun i hi => by omega)
  refine hQb _ ?_
  show zx zk_mt zk_ex Ls xs zm_308 (80, [(0, .ref 69), (1, .int (nI E)), (2, .int (nI 16))], []) (zH (zb (zb (zb v 68 (upd (upd (upd (upd (upd (v 68) 0 0) 2 0) 9 0) 11 0) 13 0)) 72 fa) 74 fb) w t) _
  refine zx.adv 7 (f' := (91, [(0, .ref 69), (1, .int (nI E)), (2, .int (nI 16))], [.ref 69])) (h' := zH (zb (zb (zb v 68 (upd (upd (upd (upd (upd (upd (upd (v 68) 0 0) 2 0) 3 (nI E)) 5 0) 9 0) 11 0) 13 0)) 72 fa) 74 fb) w t) rfl ?_
  skip
  · obtain ⟨u1, q1, mt1, mf1⟩ := hM.2 (zb (zb (zb v 68 (upd (upd (upd (upd (upd (upd (upd (v 68) 0 0) 2 0) 3 (nI E)) 5 0) 9 0) 11 0) 13 0)) 72 fa) 74 fb) w t 0 (Nat.zero_le _) rfl hB rfl
    have s1 : zMs tn ts tp tv E B 0 u1 := ⟨mt1, ⟨(mf1.1 69 (by decide) (by decide)).trans hB, mf1.2 9 (by omega)⟩, mf1.2 13 (by omega)⟩
    have f72 : u1 72 = fa := mf1.1 72 (by decide) (by decide)
    have f74 : u1 74 = fb := mf1.1 74 (by decide) (by decide)
    obtain ⟨u2, q2, m2⟩ := zm_line (w := w) (t := t) (u := u1) hM hT s1 (S := fun _ => 0) (D := 0) (Mn := 0) (Gn := 0) (Un := 0) (bg := 0) (l := l) (by rw [f72]; exact zRN0 hfa) (fun s _ h0 => absurd rfl h0) (by rw [f72, f74]; exact hL0 fa fb (fun i hi => hfa i (by omega)) hfb)
    refine zx.cl (v := none) (h' := zH u1 w t) rfl q1 ?_
    show zx zk_mt zk_ex Ls xs zm_308 (94, [(0, .ref 69), (1, .int (nI E)), (2, .int (nI 16))], []) (zH u1 w t) _
    refine zx.adv 1 (f' := (95, [(0, .ref 69), (1, .int (nI E)), (2, .int (nI 16))], [.ref 69])) (h' := zH u1 w t) rfl ?_
    refine zx.cl (v := none) (h' := zH u2 w t) rfl q2 ?_
    show zx zk_mt zk_ex Ls xs zm_308 (98, [(0, .ref 69)], []) (zH u2 w t) _
    have hR : ∃ u3, zML tn ts tp tv E B (zp_read tn ts tp tv (E + 1) 0 0 0 0 0 0 l (fun _ => 0)) u1 u3 ∧ ∀ Q : Option Value × zk_H → Prop, zx zk_mt zk_ex Ls xs zm_308 (193, [(0, .ref 69)], []) (zH u3 w t) Q → zx zk_mt zk_ex Ls xs zm_308 (98, [(0, .ref 69)], []) (zH u2 w t) Q := by
      rw [zp_read_s]
      cases hl : zp_line tn ts tp tv 0 0 0 0 0 0 l (fun _ => 0) with
      | inr e =>
        obtain ⟨f, p⟩ := e
        rw [hl] at m2
        exact ⟨u2, m2, fun Q hq => zn_mx m2.2.1 hq⟩
      | inl a =>
        obtain ⟨k2, ⟨D2, M2, G2, U2, b2⟩, l2, S2⟩ := a
        rw [hl] at m2
        obtain ⟨s2, n2, L2⟩ : zMs tn ts tp tv E B k2 u2 ∧ zRN S2 (u2 72) ∧ zL D2 M2 G2 U2 b2 l2 (u2 72) (u2 74) := m2.2
        obtain ⟨hmm, hS2, hb2⟩ := zp_line_m hT hM.1 (Nat.zero_le _) (show zSr 0 0 0 (fun _ => 0) from fun s _ h0 => absurd rfl h0) hl
        obtain ⟨u3, m3, hQ⟩ := zn_mr (w := w) (t := t) hM hT E k2 D2 M2 G2 U2 b2 l2 S2 u2 s2 n2 hS2 L2 hb2 (by omega)
        exact ⟨u3, ⟨m2.1.trans m3.1, m3.2⟩, hQ⟩
    obtain ⟨u3, ⟨mk, mm⟩, hQ⟩ := hR
    have fk : ∀ r, r ≠ 68 → r ≠ 70 → r ≠ 72 → r ≠ 74 → u3 r = v r := fun r a b c d => (mk.1 r a b c d).trans ((mf1.1 r a b).trans ((zb_un d).trans ((zb_un c).trans (zb_un a))))
    have fj : ∀ j, j < 4 ∨ 8 < j → j ≠ 9 → j ≠ 10 → j ≠ 13 → u3 68 j = upd (upd (upd (upd (upd (upd (upd (v 68) 0 0) 2 0) 3 (nI E)) 5 0) 9 0) 11 0) 13 0 j := fun j a b c d => (mk.2 j a b c d).trans (mf1.2 j a)
    cases hr : zp_read tn ts tp tv (E + 1) 0 0 0 0 0 0 l (fun _ => 0) with
    | inr e =>
      obtain ⟨f, p⟩ := e
      rw [hr] at mm
      obtain ⟨x13, x9, x10⟩ : zMx f p u3 := mm
      refine hQ _ ?_
      obtain ⟨q, hq, v', rfl, g1, g2, g3⟩ := zn_lx (w := w) (t := t) (Ls := Ls) (xs := xs) x13
      exact ⟨_, hq, v', rfl, fun r a b c d => (g1 r a).trans (fk r a b c d), g2, (g3 9 (by decide)).trans x9, (g3 10 (by decide)).trans x10, (g3 2 (by decide)).trans (fj 2 (by omega) (by decide) (by decide) (by decide)), (g3 14 (by decide)).trans (fj 14 (by omega) (by decide) (by decide) (by decide)), (g3 23 (by decide)).trans (fj 23 (by omega) (by decide) (by decide) (by decide)), (g3 24 (by decide)).trans (fj 24 (by omega) (by decide) (by decide) (by decide))⟩
    | inl a =>
      obtain ⟨k3, ⟨D, Mn, Gn, Un, bg⟩, l', S'⟩ := a
      rw [hr] at mm
      obtain ⟨s3, n3, L3⟩ : zMs tn ts tp tv E B k3 u3 ∧ zRN S' (u3 72) ∧ zL D Mn Gn Un bg l' (u3 72) (u3 74) := mm
      refine hQ _ ?_
      obtain ⟨q, hq, v', rfl, g1, g2, g3, g4, ⟨g5, g6, g7⟩, g8⟩ := zn_lo (w := w) (t := t) (Ls := Ls) (xs := xs) (Gn := Gn) s3.2.2 L3.1.2.1.2.2.2.2.2.1
      exact ⟨_, hq, v', rfl, fun r a b c d e f g => (g1 r a c e g).trans (fk r a b d f), (g8 11 (by decide) (by decide) (by decide)).trans (fj 11 (by omega) (by decide) (by decide) (by decide)), (g8 9 (by decide) (by decide) (by decide)).trans s3.2.1.2, (g8 2 (by decide) (by decide) (by decide)).trans (fj 2 (by omega) (by decide) (by decide) (by decide)), g5, g6, g7, zL_ext (l' := l') L3 (fun i hi => g2 i (by omega)) g3, fun i hi => (g4 i hi).trans (g3 i hi).symm⟩
end Z69
