/-! ties: the sets that fit -/
theorem zl_msk_1 (Un c40 D Gn : Nat) (r to : Nat → Int32) (wa : Int32) (j : Nat) (fo sm so al : Int32) (of_ row : Nat → Int32) (ou : Int32) (lt lw oo slp ly : Nat → Int32) :
    (zl_mskG Un c40 D Gn r to wa j (fo, sm, so, al, of_, row, ou, lt, lw, oo, slp, ly)).1 = (if (zr_mwb Un c40 D Gn r to (nI j) row ou lt lw oo slp ly).1 = -2 then (if sm = wa then nI j else fo) else fo) ∧ (zl_mskG Un c40 D Gn r to wa j (fo, sm, so, al, of_, row, ou, lt, lw, oo, slp, ly)).2.1 = (if (zr_mwb Un c40 D Gn r to (nI j) row ou lt lw oo slp ly).1 = -2 then sm + 1 else sm) ∧ (zl_mskG Un c40 D Gn r to wa j (fo, sm, so, al, of_, row, ou, lt, lw, oo, slp, ly)).2.2.1 = (if (zr_mwb Un c40 D Gn r to (nI j) row ou lt lw oo slp ly).1 = -2 then so ||| nI j else so) ∧ (zl_mskG Un c40 D Gn r to wa j (fo, sm, so, al, of_, row, ou, lt, lw, oo, slp, ly)).2.2.2.1 = (if (zr_mwb Un c40 D Gn r to (nI j) row ou lt lw oo slp ly).1 = -2 then al &&& nI j else al) ∧ (zl_mskG Un c40 D Gn r to wa j (fo, sm, so, al, of_, row, ou, lt, lw, oo, slp, ly)).2.2.2.2.1 = (if (zr_mwb Un c40 D Gn r to (nI j) row ou lt lw oo slp ly).1 = -2 then zf (zl_mskOG (nI j)) Un 0 of_ else of_) := by
  unfold zl_mskG
  by_cases hw : (zr_mwb Un c40 D Gn r to (nI j) row ou lt lw oo slp ly).1 = -2
  · by_cases hs : sm = wa
    · simp only [if_pos hw, if_pos hs, and_self]
    · simp only [if_pos hw, if_neg hs, and_self]
  · simp only [if_neg hw, and_self]
theorem zl_aG_1 (ft wa : Int32) (Un j : Nat) (fo sm so al : Int32) (of_ : Nat → Int32) :
    zl_aG ft wa Un j (fo, sm, so, al, of_) = ((if bt ft j = true then (if sm = wa then nI j else fo) else fo), (if bt ft j = true then sm + 1 else sm), (if bt ft j = true then so ||| nI j else so), (if bt ft j = true then al &&& nI j else al), (if bt ft j = true then zf (zl_mskOG (nI j)) Un 0 of_ else of_)) := by
  unfold zl_aG
  by_cases h : bt ft j = true
  · simp only [if_pos h]
  · simp only [if_neg h]
section ZYA
variable {D Mn Gn Un : Nat} {r20 r21 r22 r23 r24 r25 r26 r27 r28 r29 r30 r31 r71 r73 : Nat → Int32}
theorem zy_msk (ht : zI_t D Mn Gn Un r20 r21 r22 r23 r24 r25 r26 r27 r28 r29 r30 r31 r71 r73) {ft : Int32} (hd : ∀ s, s < 32 → (bt ft s = true ↔ s < 2 ^ Un ∧ zI_wb Un D Gn r71 r73 s = -2)) {N c40 : Nat} (hN : 2 ^ Un = N) (h40 : c40 = 40) (wa : Int32) (of_ row : Nat → Int32) (ou : Int32) (lt lw oo slp ly : Nat → Int32) {A : Int32 × Int32 × Int32 × Int32 × (Nat → Int32)} (hA : A = zf (zl_aG ft wa Un) 16 0 (-1, 0, 0, nI (2 ^ Un) - 1, zf zl_mskZG 4 0 of_)) {Z : Int32 × Int32 × Int32 × Int32 × (Nat → Int32) × (Nat → Int32) × Int32 × (Nat → Int32) × (Nat → Int32) × (Nat → Int32) × (Nat → Int32) × (Nat → Int32)} (hZ : Z = zr_msk Un N c40 D Gn r71 r73 wa of_ row ou lt lw oo slp ly) :
    Z.1 = A.1 ∧ Z.2.1 = A.2.1 ∧ Z.2.2.1 = A.2.2.1 ∧ Z.2.2.2.1 = (if A.2.1 = 0 then 0 else A.2.2.2.1) ∧ Z.2.2.2.2.1 = A.2.2.2.2 := by
  have hU := ht.1.2.2.2
  have hN16 : 2 ^ Un ≤ 16 := Nat.le_trans (Nat.pow_le_pow_right (by decide) hU) (by decide)
  have hA2 : A = zf (zl_aG ft wa Un) N 0 (-1, 0, 0, nI N - 1, zf zl_mskZG 4 0 of_) := by
    rw [hA, show 16 = N + (16 - N) by omega, zf_add, hN]
    exact zl_aG_off _ _ _ (fun j h1 h2 => by
      have := hd j (by omega)
      cases hb : bt ft j with
      | false => rfl
      | true => exact absurd (this.mp hb).1 (by omega))
  have key := zf_rel (G := zl_mskG Un c40 D Gn r71 r73 wa) (H := zl_aG ft wa Un) (P := fun _ s t => s.1 = t.1 ∧ s.2.1 = t.2.1 ∧ s.2.2.1 = t.2.2.1 ∧ s.2.2.2.1 = t.2.2.2.1 ∧ s.2.2.2.2.1 = t.2.2.2.2) N 0 (-1, 0, 0, nI N - 1, zf zl_mskZG 4 0 of_, row, ou, lt, lw, oo, slp, ly) (-1, 0, 0, nI N - 1, zf zl_mskZG 4 0 of_) ⟨rfl, rfl, rfl, rfl, rfl⟩ ?_
  · rw [← hA2] at key
    rw [hZ]
    unfold zr_msk
    generalize zf (zl_mskG Un c40 D Gn r71 r73 wa) N 0 (-1, 0, 0, nI N - 1, zf zl_mskZG 4 0 of_, row, ou, lt, lw, oo, slp, ly) = S at key ⊢
    obtain ⟨k1, k2, k3, k4, k5⟩ := key
    rw [← k2]
    by_cases h0 : S.2.1 = 0
    · rw [if_pos h0, if_pos h0]
      exact ⟨k1, rfl, k3, rfl, k5⟩
    · rw [if_neg h0, if_neg h0]
      exact ⟨k1, rfl, k3, k4, k5⟩
  · intro j s t _ hj hp
    obtain ⟨fo, sm, so, al, of2, row, ou, lt, lw, oo, slp, ly⟩ := s
    obtain ⟨fo2, sm2, so2, al2, of3⟩ := t
    obtain ⟨p1, p2, p3, p4, p5⟩ := hp
    have p1 : fo = fo2 := p1
    have p2 : sm = sm2 := p2
    have p3 : so = so2 := p3
    have p4 : al = al2 := p4
    have p5 : of2 = of3 := p5
    subst p1 p2 p3 p4 p5
    obtain ⟨m1, m2, m3, m4, m5⟩ := zl_msk_1 Un c40 D Gn r71 r73 wa j fo sm so al of2 row ou lt lw oo slp ly
    rw [m1, m2, m3, m4, m5, zl_aG_1, zy_mwbJ ht j row ou lt lw oo slp ly h40]
    have hj2 := hd j (by omega)
    by_cases hb : bt ft j = true
    · have h2 := (hj2.mp hb).2
      simp only [if_pos hb, if_pos h2, and_self]
    · have h2 : ¬ zI_wb Un D Gn r71 r73 j = -2 := fun z => hb (hj2.mpr ⟨by omega, z⟩)
      simp only [if_neg hb, if_neg h2, and_self]
theorem zy_ft16 (ht : zI_t D Mn Gn Un r20 r21 r22 r23 r24 r25 r26 r27 r28 r29 r30 r31 r71 r73) {ft : Int32} (hd : ∀ s, s < 32 → (bt ft s = true ↔ s < 2 ^ Un ∧ zI_wb Un D Gn r71 r73 s = -2)) : (∀ i, 16 ≤ i → i < 32 → bt ft i = false) ∧ (∀ j, j < 16 → bt ft j = true → j < 2 ^ Un) ∧ (ft = 0 ↔ zy_cnt (fun j => bt ft j) 16 = 0) := by
  have hU := ht.1.2.2.2
  have hN16 : 2 ^ Un ≤ 16 := Nat.le_trans (Nat.pow_le_pow_right (by decide) hU) (by decide)
  have h16 : ∀ i, 16 ≤ i → i < 32 → bt ft i = false := fun i h1 h2 => by
    cases hb : bt ft i with
    | false => rfl
    | true => exact absurd ((hd i h2).mp hb).1 (by omega)
  refine ⟨h16, fun j hj hb => ((hd j (by omega)).mp hb).1, ?_⟩
  rw [zy_cnt_0, zt_z]
  constructor
  · exact fun h j hj => h j (by omega)
  · intro h i hi
    by_cases hi2 : i < 16
    · exact h i hi2
    · exact h16 i (by omega) hi
end ZYA
theorem zy_leaves {ft sm : Int32} {of_ : Nat → Int32} {u : Nat} (hu : u < 4) (hsm : sm = zr_bc ft) (ho : of_ u = zf (zl_leftG ft (nI u)) 16 0 0) : zr_mleaves of_ sm (nI u) = zr_left ft (nI u) := by
  unfold zr_mleaves zr_left zr_max
  rw [nI_clamp (show u < 2 ^ 31 by omega), ho, hsm]
  generalize zf (zl_leftG ft (nI u)) 16 0 0 = c
  generalize zr_bc ft - c = d
  by_cases h1 : c < d
  · rw [if_pos (Int32.le_of_lt h1), if_pos h1]
  · rw [if_neg h1]
    by_cases h2 : c ≤ d
    · rw [if_pos h2]
      exact Int32.le_antisymm (Int32.not_lt.mp h1) h2
    · rw [if_neg h2]
theorem zy_mask {ft sm : Int32} {of_ : Nat → Int32} {Un : Nat} (hU : Un ≤ 4) (hsm : sm = zr_bc ft) (ho : ∀ u, u < Un → of_ u = zf (zl_leftG ft (nI u)) 16 0 0) : zf (zl_maskG of_ sm) Un 0 (-2) = zf (zl_bestG ft) Un 0 (-2) ∧ (zf (zl_bestG ft) Un 0 (-2) = -2 ∨ ∃ u, u < Un ∧ zf (zl_bestG ft) Un 0 (-2) = nI u) := by
  have key := zf_rel (G := zl_maskG of_ sm) (H := zl_bestG ft) (P := fun j s t => s = t ∧ (t = -2 ∨ ∃ u, u < j ∧ t = nI u)) Un 0 (-2) (-2) ⟨rfl, Or.inl rfl⟩ ?_
  · rw [Nat.zero_add] at key
    exact key
  · intro j s t _ hj hp
    obtain ⟨rfl, h2⟩ := hp
    unfold zl_maskG zl_bestG
    rcases h2 with h2 | ⟨u, hu, h2⟩
    · rw [if_pos (by rw [h2]; decide), if_pos (by rw [h2]; decide)]
      exact ⟨rfl, Or.inr ⟨j, by omega, rfl⟩⟩
    · have hn : ¬ s < 0 := by rw [h2]; exact nI_pos (by omega)
      rw [if_neg hn, if_neg hn, h2, zy_leaves (by omega) hsm (ho u (by omega)), zy_leaves (by omega) hsm (ho j (by omega))]
      by_cases hc : zr_left ft (nI u) ≤ zr_left ft (nI j)
      · rw [if_pos hc]
        exact ⟨rfl, Or.inr ⟨u, by omega, rfl⟩⟩
      · rw [if_neg hc]
        exact ⟨rfl, Or.inr ⟨j, by omega, rfl⟩⟩
section ZTL
variable {Ls : Nat} {xs : Nat → Int32} {v : Nat → Nat → Int32} {w : Nat → Nat → Int64} {t : zk_H}
theorem zT_fits (h : zJ v w) : zT Ls xs v w t 137 260 [] := by
  rcases h.st with hst | hst
  · exact zT.mk (zK_fits_t hst) (zM_fits_t (v := zb v 0 (upd (v 0) 10 1)) (h.lv.trans hst)) rfl (by exact zJ.of 1 (by decide) h.1 rfl rfl)
  · obtain ⟨_, _, _, _, h46, _, D, Mn, Gn, Un, ht, hs, _, hz⟩ := h.1
    have hd := (hz.resolve_left (fun z => absurd (hst.symm.trans z.1) (by decide))).2.2.2
    have hU := ht.1.2.2.2
    have hN2 : 2 ^ Un ≤ 256 := Nat.pow_le_pow_right (by decide) (show Un ≤ 8 by omega)
    obtain ⟨f1, f2, f3⟩ := zy_ft16 ht hd.2.1
    have hbc := zy_bc16 f1
    have hlt := zy_lie ht ht.2.2.2.2.2.2.2.2
    obtain ⟨Z, hZ⟩ : ∃ Z, Z = zr_msk Un (2 ^ Un) 40 D Gn (v 71) (v 73) (-1) (v 84) (v 76) (v 68 26) (v 80) (v 81) (v 82) (v 79) (v 83) := ⟨_, rfl⟩
    obtain ⟨A, hA⟩ : ∃ A, A = zf (zl_aG (v 57 3) (-1) Un) 16 0 (-1, 0, 0, nI (2 ^ Un) - 1, zf zl_mskZG 4 0 (v 84)) := ⟨_, rfl⟩
    obtain ⟨z1, z2, z3, z4, z5⟩ := zy_msk ht hd.2.1 rfl rfl (-1) (v 84) (v 76) (v 68 26) (v 80) (v 81) (v 82) (v 79) (v 83) hA hZ
    obtain ⟨a2, a3, a5⟩ := zl_a_some (v 57 3) (-1) Un (-1) (nI (2 ^ Un) - 1) (zf zl_mskZG 4 0 (v 84)) 16 (by decide)
    rw [← hA] at a2 a3 a5
    exact zT.mk (zK_fits_f hst) (zM_fits_f (v := zb v 0 (upd (v 0) 10 0)) (h.lv.trans hst) Un ht.2.1.2.2.2.2.2.2.2 hU (zy_um ht) D ht.2.1.2.1 ht.1.1 Gn ht.2.1.2.2.2.2.2.1 ht.1.2.2.1 (zy_ev ht) hlt 40 rfl (2 ^ Un) rfl hN2) (show (zr_msk Un (2 ^ Un) 40 D Gn (v 71) (v 73) (-1) (v 84) (v 76) (v 68 26) (v 80) (v 81) (v 82) (v 79) (v 83)).2.1 = zr_bc (v 57 3) by rw [← hZ, z2, a2, hbc]) (by exact zJ.of 0 (by decide) h.1 rfl rfl)
theorem zT_could (h : zJ v w) : zT Ls xs v w t 134 258 [] := by
  rcases h.st with hst | hst
  · exact zT.mk (zK_could_t hst) (zM_could_t (v := zb v 0 (upd (v 0) 10 1)) (h.lv.trans hst)) rfl (by exact zJ.of 1 (by decide) h.1 rfl rfl)
  · obtain ⟨_, _, _, _, h46, _, D, Mn, Gn, Un, ht, hs, _, hz⟩ := h.1
    have hd := (hz.resolve_left (fun z => absurd (hst.symm.trans z.1) (by decide))).2.2.2
    have hU := ht.1.2.2.2
    have hN2 : 2 ^ Un ≤ 256 := Nat.pow_le_pow_right (by decide) (show Un ≤ 8 by omega)
    obtain ⟨f1, f2, f3⟩ := zy_ft16 ht hd.2.1
    have hbc := zy_bc16 f1
    have hlt := zy_lie ht ht.2.2.2.2.2.2.2.2
    obtain ⟨Z, hZ⟩ : ∃ Z, Z = zr_msk Un (2 ^ Un) 40 D Gn (v 71) (v 73) (-1) (v 84) (v 76) (v 68 26) (v 80) (v 81) (v 82) (v 79) (v 83) := ⟨_, rfl⟩
    obtain ⟨A, hA⟩ : ∃ A, A = zf (zl_aG (v 57 3) (-1) Un) 16 0 (-1, 0, 0, nI (2 ^ Un) - 1, zf zl_mskZG 4 0 (v 84)) := ⟨_, rfl⟩
    obtain ⟨z1, z2, z3, z4, z5⟩ := zy_msk ht hd.2.1 rfl rfl (-1) (v 84) (v 76) (v 68 26) (v 80) (v 81) (v 82) (v 79) (v 83) hA hZ
    obtain ⟨a2, a3, a5⟩ := zl_a_some (v 57 3) (-1) Un (-1) (nI (2 ^ Un) - 1) (zf zl_mskZG 4 0 (v 84)) 16 (by decide)
    rw [← hA] at a2 a3 a5
    exact zT.mk (zK_could_f hst) (zM_could_f (v := zb v 0 (upd (v 0) 10 0)) (h.lv.trans hst) Un ht.2.1.2.2.2.2.2.2.2 hU (zy_um ht) D ht.2.1.2.1 ht.1.1 Gn ht.2.1.2.2.2.2.2.1 ht.1.2.2.1 (zy_ev ht) hlt 40 rfl (2 ^ Un) rfl hN2) (show (zr_msk Un (2 ^ Un) 40 D Gn (v 71) (v 73) (-1) (v 84) (v 76) (v 68 26) (v 80) (v 81) (v 82) (v 79) (v 83)).2.2.1 = zr_inSome (v 57 3) by rw [← hZ, z3, a3]; rfl) (by exact zJ.of 0 (by decide) h.1 rfl rfl)
theorem zT_surely (h : zJ v w) : zT Ls xs v w t 150 272 [] := by
  rcases h.st with hst | hst
  · exact zT.mk (zK_surely_t hst) (zM_surely_t (v := zb v 0 (upd (v 0) 10 1)) (h.lv.trans hst)) rfl (by exact zJ.of 1 (by decide) h.1 rfl rfl)
  · obtain ⟨_, _, _, _, h46, _, D, Mn, Gn, Un, ht, hs, _, hz⟩ := h.1
    have hd := (hz.resolve_left (fun z => absurd (hst.symm.trans z.1) (by decide))).2.2.2
    have hU := ht.1.2.2.2
    have hN2 : 2 ^ Un ≤ 256 := Nat.pow_le_pow_right (by decide) (show Un ≤ 8 by omega)
    obtain ⟨f1, f2, f3⟩ := zy_ft16 ht hd.2.1
    have hbc := zy_bc16 f1
    have hlt := zy_lie ht ht.2.2.2.2.2.2.2.2
    obtain ⟨Z, hZ⟩ : ∃ Z, Z = zr_msk Un (2 ^ Un) 40 D Gn (v 71) (v 73) (-1) (v 84) (v 76) (v 68 26) (v 80) (v 81) (v 82) (v 79) (v 83) := ⟨_, rfl⟩
    obtain ⟨A, hA⟩ : ∃ A, A = zf (zl_aG (v 57 3) (-1) Un) 16 0 (-1, 0, 0, nI (2 ^ Un) - 1, zf zl_mskZG 4 0 (v 84)) := ⟨_, rfl⟩
    obtain ⟨z1, z2, z3, z4, z5⟩ := zy_msk ht hd.2.1 rfl rfl (-1) (v 84) (v 76) (v 68 26) (v 80) (v 81) (v 82) (v 79) (v 83) hA hZ
    obtain ⟨a2, a3, a5⟩ := zl_a_some (v 57 3) (-1) Un (-1) (nI (2 ^ Un) - 1) (zf zl_mskZG 4 0 (v 84)) 16 (by decide)
    rw [← hA] at a2 a3 a5
    refine zT.mk (zK_surely_f hst) (zM_surely_f (v := zb v 0 (upd (v 0) 10 0)) (h.lv.trans hst) Un ht.2.1.2.2.2.2.2.2.2 hU (zy_um ht) D ht.2.1.2.1 ht.1.1 Gn ht.2.1.2.2.2.2.2.1 ht.1.2.2.1 (zy_ev ht) hlt 40 rfl (2 ^ Un) rfl hN2) (show (zr_msk Un (2 ^ Un) 40 D Gn (v 71) (v 73) (-1) (v 84) (v 76) (v 68 26) (v 80) (v 81) (v 82) (v 79) (v 83)).2.2.2.1 = zr_inAll (v 57 3) from ?_) (by exact zJ.of 0 (by decide) h.1 rfl rfl)
    rw [← hZ, z4]
    unfold zr_inAll
    by_cases h0 : v 57 3 = 0
    · rw [if_pos (by rw [a2, f3.mp h0]; rfl), if_pos h0]
    · have hc : 0 < zy_cnt (fun j => bt (v 57 3) j) 16 := Nat.pos_of_ne_zero (fun z => h0 (f3.mpr z))
      have hc16 := zy_cnt_le (fun j => bt (v 57 3) j) 16
      obtain ⟨_, q2, q3⟩ := zl_a_all (v 57 3) (-1) Un hU (-1) (zf zl_mskZG 4 0 (v 84)) f2 16 (by decide)
      rw [← hA] at q2
      rw [if_neg (by rw [a2]; exact nI_ne0 hc (by omega)), if_neg h0]
      apply b_ext
      intro i hi
      rw [q2 i hi]
      by_cases hiU : i < Un
      · rw [decide_eq_true hiU, Bool.and_true]
      · rw [q3 hc i (by omega) hi, Bool.false_and]
theorem zT_judge (h : zJ v w) : zT Ls xs v w t 140 242 [] := by
  rcases h.st with hst | hst
  · exact zT.mk (zK_judge_t hst) (zM_judge_t (v := zb v 0 (upd (v 0) 10 1)) (h.lv.trans hst)) rfl (by exact zJ.of 1 (by decide) h.1 rfl rfl)
  · obtain ⟨_, _, _, _, h46, _, D, Mn, Gn, Un, ht, hs, _, hz⟩ := h.1
    have hd := (hz.resolve_left (fun z => absurd (hst.symm.trans z.1) (by decide))).2.2.2
    have hU := ht.1.2.2.2
    have hN2 : 2 ^ Un ≤ 256 := Nat.pow_le_pow_right (by decide) (show Un ≤ 8 by omega)
    obtain ⟨f1, f2, f3⟩ := zy_ft16 ht hd.2.1
    have hbc := zy_bc16 f1
    have hlt := zy_lie ht ht.2.2.2.2.2.2.2.2
    exact zT.mk (zK_judge_f hst) (zM_judge_f (v := zb v 0 (upd (v 0) 10 0)) (h.lv.trans hst) Un ht.2.1.2.2.2.2.2.2.2 hU (zy_um ht) D ht.2.1.2.1 ht.1.1 Gn ht.2.1.2.2.2.2.2.1 ht.1.2.2.1 (zy_ev ht) hlt 40 rfl) ((zy_mwbJ ht 0 (v 76) (v 68 26) (v 80) (v 81) (v 82) (v 79) (v 83) rfl).trans hd.2.2.symm) (by exact zJ.of 0 (by decide) h.1 rfl rfl)
theorem zT_fitAt (h : zJ v w) (x : Int32) : zT Ls xs v w t 136 259 [.int x] := by
  rcases h.st with hst | hst
  · exact zT.mk (zK_fitAt_t x hst) (zM_fitAt_t (v := zb v 0 (upd (v 0) 10 1)) x (h.lv.trans hst)) rfl (by exact zJ.of 1 (by decide) h.1 rfl rfl)
  · obtain ⟨_, _, _, _, h46, _, D, Mn, Gn, Un, ht, hs, _, hz⟩ := h.1
    have hd := (hz.resolve_left (fun z => absurd (hst.symm.trans z.1) (by decide))).2.2.2
    have hU := ht.1.2.2.2
    have hN2 : 2 ^ Un ≤ 256 := Nat.pow_le_pow_right (by decide) (show Un ≤ 8 by omega)
    obtain ⟨f1, f2, f3⟩ := zy_ft16 ht hd.2.1
    have hbc := zy_bc16 f1
    have hlt := zy_lie ht ht.2.2.2.2.2.2.2.2
    by_cases hx : x < 0
    · exact zT.mk (zK_fitAt_1a x hst hx) (zM_fitAt_n (v := zb v 0 (upd (v 0) 10 1)) x (h.lv.trans hst) hx) rfl (by exact zJ.of 1 (by decide) h.1 rfl rfl)
    obtain ⟨X, hX, rfl⟩ := nI_of hx
    obtain ⟨Z, hZ⟩ : ∃ Z, Z = zr_msk Un (2 ^ Un) 40 D Gn (v 71) (v 73) (nI X) (v 84) (v 76) (v 68 26) (v 80) (v 81) (v 82) (v 79) (v 83) := ⟨_, rfl⟩
    obtain ⟨A, hA⟩ : ∃ A, A = zf (zl_aG (v 57 3) (nI X) Un) 16 0 (-1, 0, 0, nI (2 ^ Un) - 1, zf zl_mskZG 4 0 (v 84)) := ⟨_, rfl⟩
    obtain ⟨z1, z2, z3, z4, z5⟩ := zy_msk ht hd.2.1 rfl rfl (nI X) (v 84) (v 76) (v 68 26) (v 80) (v 81) (v 82) (v 79) (v 83) hA hZ
    obtain ⟨a2, a3, a5⟩ := zl_a_some (v 57 3) (nI X) Un (-1) (nI (2 ^ Un) - 1) (zf zl_mskZG 4 0 (v 84)) 16 (by decide)
    rw [← hA] at a2 a3 a5
    rcases zl_a_at (v 57 3) hX Un (nI (2 ^ Un) - 1) (zf zl_mskZG 4 0 (v 84)) 16 (by decide) with ⟨q1, q2, q3⟩ | ⟨q1, j, q2, q3, q4⟩
    · exact zT.mk (zK_fitAt_1b (nI X) hst hx (by rw [hbc]; exact nI_nlt q1 hX)) (zM_fitAt_o (v := zb v 0 (upd (v 0) 10 1)) (nI X) (h.lv.trans hst) hx Un ht.2.1.2.2.2.2.2.2.2 hU (zy_um ht) D ht.2.1.2.1 ht.1.1 Gn ht.2.1.2.2.2.2.2.1 ht.1.2.2.1 (zy_ev ht) hlt 40 rfl (2 ^ Un) rfl hN2 (by show (zr_msk Un (2 ^ Un) 40 D Gn (v 71) (v 73) (nI X) (v 84) (v 76) (v 68 26) (v 80) (v 81) (v 82) (v 79) (v 83)).1 < 0; rw [← hZ, z1, hA, q2]; decide)) rfl (by exact zJ.of 1 (by decide) h.1 rfl rfl)
    · have hc16 := zy_cnt_le (fun j => bt (v 57 3) j) 16
      exact zT.mk (zK_fitAt_f (nI X) hst hx (by rw [hbc]; exact nI_lt q1 (by omega))) (zM_fitAt_f (v := zb v 0 (upd (v 0) 10 0)) (nI X) (h.lv.trans hst) hx Un ht.2.1.2.2.2.2.2.2.2 hU (zy_um ht) D ht.2.1.2.1 ht.1.1 Gn ht.2.1.2.2.2.2.2.1 ht.1.2.2.1 (zy_ev ht) hlt 40 rfl (2 ^ Un) rfl hN2 (by show ¬ (zr_msk Un (2 ^ Un) 40 D Gn (v 71) (v 73) (nI X) (v 84) (v 76) (v 68 26) (v 80) (v 81) (v 82) (v 79) (v 83)).1 < 0; rw [← hZ, z1, hA, q3]; exact nI_pos (by omega))) (show (zr_msk Un (2 ^ Un) 40 D Gn (v 71) (v 73) (nI X) (v 84) (v 76) (v 68 26) (v 80) (v 81) (v 82) (v 79) (v 83)).1 = zr_fitSet (v 57 3) (nI X) by unfold zr_fitSet; rw [← hZ, z1, hA, q3, q4]) (by exact zJ.of 0 (by decide) h.1 rfl rfl)
theorem zT_ask (h : zJ v w) : zT Ls xs v w t 187 291 [] := by
  rcases h.st with hst | hst
  · exact zT.mk (zK_ask_t hst) (zM_ask_t (v := zb v 0 (upd (v 0) 10 1)) (h.lv.trans hst)) rfl (by exact zJ.of 1 (by decide) h.1 rfl rfl)
  · obtain ⟨_, _, _, _, h46, _, D, Mn, Gn, Un, ht, hs, _, hz⟩ := h.1
    have hd := (hz.resolve_left (fun z => absurd (hst.symm.trans z.1) (by decide))).2.2.2
    have hU := ht.1.2.2.2
    have hN2 : 2 ^ Un ≤ 256 := Nat.pow_le_pow_right (by decide) (show Un ≤ 8 by omega)
    obtain ⟨f1, f2, f3⟩ := zy_ft16 ht hd.2.1
    have hbc := zy_bc16 f1
    have hlt := zy_lie ht ht.2.2.2.2.2.2.2.2
    obtain ⟨Z, hZ⟩ : ∃ Z, Z = zr_msk Un (2 ^ Un) 40 D Gn (v 71) (v 73) (-1) (v 84) (v 76) (v 68 26) (v 80) (v 81) (v 82) (v 79) (v 83) := ⟨_, rfl⟩
    obtain ⟨A, hA⟩ : ∃ A, A = zf (zl_aG (v 57 3) (-1) Un) 16 0 (-1, 0, 0, nI (2 ^ Un) - 1, zf zl_mskZG 4 0 (v 84)) := ⟨_, rfl⟩
    obtain ⟨z1, z2, z3, z4, z5⟩ := zy_msk ht hd.2.1 rfl rfl (-1) (v 84) (v 76) (v 68 26) (v 80) (v 81) (v 82) (v 79) (v 83) hA hZ
    obtain ⟨a2, a3, a5⟩ := zl_a_some (v 57 3) (-1) Un (-1) (nI (2 ^ Un) - 1) (zf zl_mskZG 4 0 (v 84)) 16 (by decide)
    rw [← hA] at a2 a3 a5
    have hsm : Z.2.1 = zr_bc (v 57 3) := by rw [z2, a2, hbc]
    have hof : ∀ u, u < Un → Z.2.2.2.2.1 u = zf (zl_leftG (v 57 3) (nI u)) 16 0 0 := fun u hu => by rw [z5, a5 u hu, zl_mskZ_at _ 4 u (by omega), Int32.zero_add]
    have hc16 := zy_cnt_le (fun j => bt (v 57 3) j) 16
    by_cases h0 : v 57 3 = 0
    · exact zT.mk (zK_ask_f hst Un hd.1 hU) (zM_ask_0 (v := zb v 0 (upd (v 0) 10 0)) (h.lv.trans hst) Un ht.2.1.2.2.2.2.2.2.2 hU (zy_um ht) D ht.2.1.2.1 ht.1.1 Gn ht.2.1.2.2.2.2.2.1 ht.1.2.2.1 (zy_ev ht) hlt 40 rfl (2 ^ Un) rfl hN2 (by show (zr_msk Un (2 ^ Un) 40 D Gn (v 71) (v 73) (-1) (v 84) (v 76) (v 68 26) (v 80) (v 81) (v 82) (v 79) (v 83)).2.1 ≤ 0; rw [← hZ, z2, a2, f3.mp h0]; decide)) (by unfold zr_best; rw [if_pos h0]) (by exact zJ.of 0 (by decide) h.1 rfl rfl)
    · have hc : 0 < zy_cnt (fun j => bt (v 57 3) j) 16 := Nat.pos_of_ne_zero (fun z => h0 (f3.mpr z))
      exact zT.mk (zK_ask_f hst Un hd.1 hU) (zM_ask_f (v := zb v 0 (upd (v 0) 10 0)) (h.lv.trans hst) Un ht.2.1.2.2.2.2.2.2.2 hU (zy_um ht) D ht.2.1.2.1 ht.1.1 Gn ht.2.1.2.2.2.2.2.1 ht.1.2.2.1 (zy_ev ht) hlt 40 rfl (2 ^ Un) rfl hN2 (by show ¬ (zr_msk Un (2 ^ Un) 40 D Gn (v 71) (v 73) (-1) (v 84) (v 76) (v 68 26) (v 80) (v 81) (v 82) (v 79) (v 83)).2.1 ≤ 0; rw [← hZ, z2, a2]; exact nI_nle hc (by omega))) (show zf (zl_maskG (zr_msk Un (2 ^ Un) 40 D Gn (v 71) (v 73) (-1) (v 84) (v 76) (v 68 26) (v 80) (v 81) (v 82) (v 79) (v 83)).2.2.2.2.1 (zr_msk Un (2 ^ Un) 40 D Gn (v 71) (v 73) (-1) (v 84) (v 76) (v 68 26) (v 80) (v 81) (v 82) (v 79) (v 83)).2.1) Un 0 (-2) = zr_best Un (v 57 3) by unfold zr_best; rw [if_neg h0, ← hZ]; exact (zy_mask hU hsm hof).1) (by exact zJ.of 0 (by decide) h.1 rfl rfl)
theorem zT_askLeaves (h : zJ v w) : zT Ls xs v w t 188 292 [] := by
  rcases h.st with hst | hst
  · exact zT.mk (zK_askLeaves_t hst) (zM_askLeaves_t (v := zb v 0 (upd (v 0) 10 1)) (h.lv.trans hst)) rfl (by exact zJ.of 1 (by decide) h.1 rfl rfl)
  · obtain ⟨_, _, _, _, h46, _, D, Mn, Gn, Un, ht, hs, _, hz⟩ := h.1
    have hd := (hz.resolve_left (fun z => absurd (hst.symm.trans z.1) (by decide))).2.2.2
    have hU := ht.1.2.2.2
    have hN2 : 2 ^ Un ≤ 256 := Nat.pow_le_pow_right (by decide) (show Un ≤ 8 by omega)
    obtain ⟨f1, f2, f3⟩ := zy_ft16 ht hd.2.1
    have hbc := zy_bc16 f1
    have hlt := zy_lie ht ht.2.2.2.2.2.2.2.2
    obtain ⟨Z, hZ⟩ : ∃ Z, Z = zr_msk Un (2 ^ Un) 40 D Gn (v 71) (v 73) (-1) (v 84) (v 76) (v 68 26) (v 80) (v 81) (v 82) (v 79) (v 83) := ⟨_, rfl⟩
    obtain ⟨A, hA⟩ : ∃ A, A = zf (zl_aG (v 57 3) (-1) Un) 16 0 (-1, 0, 0, nI (2 ^ Un) - 1, zf zl_mskZG 4 0 (v 84)) := ⟨_, rfl⟩
    obtain ⟨z1, z2, z3, z4, z5⟩ := zy_msk ht hd.2.1 rfl rfl (-1) (v 84) (v 76) (v 68 26) (v 80) (v 81) (v 82) (v 79) (v 83) hA hZ
    obtain ⟨a2, a3, a5⟩ := zl_a_some (v 57 3) (-1) Un (-1) (nI (2 ^ Un) - 1) (zf zl_mskZG 4 0 (v 84)) 16 (by decide)
    rw [← hA] at a2 a3 a5
    have hsm : Z.2.1 = zr_bc (v 57 3) := by rw [z2, a2, hbc]
    have hof : ∀ u, u < Un → Z.2.2.2.2.1 u = zf (zl_leftG (v 57 3) (nI u)) 16 0 0 := fun u hu => by rw [z5, a5 u hu, zl_mskZ_at _ 4 u (by omega), Int32.zero_add]
    have hc16 := zy_cnt_le (fun j => bt (v 57 3) j) 16
    by_cases h0 : v 57 3 = 0
    · exact zT.mk (zK_askLeaves_f hst Un hd.1 hU) (zM_askLeaves_0 (v := zb v 0 (upd (v 0) 10 0)) (h.lv.trans hst) Un ht.2.1.2.2.2.2.2.2.2 hU (zy_um ht) D ht.2.1.2.1 ht.1.1 Gn ht.2.1.2.2.2.2.2.1 ht.1.2.2.1 (zy_ev ht) hlt 40 rfl (2 ^ Un) rfl hN2 (by show (zr_msk Un (2 ^ Un) 40 D Gn (v 71) (v 73) (-1) (v 84) (v 76) (v 68 26) (v 80) (v 81) (v 82) (v 79) (v 83)).2.1 ≤ 0; rw [← hZ, z2, a2, f3.mp h0]; decide)) (by unfold zr_askLeavesK zr_best; rw [if_pos h0, if_neg (by decide)]) (by exact zJ.of 0 (by decide) h.1 rfl rfl)
    · have hc : 0 < zy_cnt (fun j => bt (v 57 3) j) 16 := Nat.pos_of_ne_zero (fun z => h0 (f3.mpr z))
      have hn : ¬ (zr_msk Un (2 ^ Un) 40 D Gn (v 71) (v 73) (-1) (v 84) (v 76) (v 68 26) (v 80) (v 81) (v 82) (v 79) (v 83)).2.1 ≤ 0 := by rw [← hZ, z2, a2]; exact nI_nle hc (by omega)
      obtain ⟨g1, g2⟩ := zy_mask hU hsm hof
      have hbe : zr_best Un (v 57 3) = zf (zl_bestG (v 57 3)) Un 0 (-2) := by unfold zr_best; rw [if_neg h0]
      rw [hZ] at g1
      rcases g2 with g2 | ⟨u, hu, g2⟩
      · exact zT.mk (zK_askLeaves_f hst Un hd.1 hU) (zM_askLeaves_n (v := zb v 0 (upd (v 0) 10 0)) (h.lv.trans hst) Un ht.2.1.2.2.2.2.2.2.2 hU (zy_um ht) D ht.2.1.2.1 ht.1.1 Gn ht.2.1.2.2.2.2.2.1 ht.1.2.2.1 (zy_ev ht) hlt 40 rfl (2 ^ Un) rfl hN2 hn (show zf (zl_maskG (zr_msk Un (2 ^ Un) 40 D Gn (v 71) (v 73) (-1) (v 84) (v 76) (v 68 26) (v 80) (v 81) (v 82) (v 79) (v 83)).2.2.2.2.1 (zr_msk Un (2 ^ Un) 40 D Gn (v 71) (v 73) (-1) (v 84) (v 76) (v 68 26) (v 80) (v 81) (v 82) (v 79) (v 83)).2.1) Un 0 (-2) < 0 by rw [g1, g2]; decide)) (by unfold zr_askLeavesK; rw [hbe, g2, if_neg (by decide)]) (by exact zJ.of 0 (by decide) h.1 rfl rfl)
      · exact zT.mk (zK_askLeaves_f hst Un hd.1 hU) (zM_askLeaves_f (v := zb v 0 (upd (v 0) 10 0)) (h.lv.trans hst) Un ht.2.1.2.2.2.2.2.2.2 hU (zy_um ht) D ht.2.1.2.1 ht.1.1 Gn ht.2.1.2.2.2.2.2.1 ht.1.2.2.1 (zy_ev ht) hlt 40 rfl (2 ^ Un) rfl hN2 hn (show ¬ zf (zl_maskG (zr_msk Un (2 ^ Un) 40 D Gn (v 71) (v 73) (-1) (v 84) (v 76) (v 68 26) (v 80) (v 81) (v 82) (v 79) (v 83)).2.2.2.2.1 (zr_msk Un (2 ^ Un) 40 D Gn (v 71) (v 73) (-1) (v 84) (v 76) (v 68 26) (v 80) (v 81) (v 82) (v 79) (v 83)).2.1) Un 0 (-2) < 0 by rw [g1, g2]; exact nI_pos (by omega))) (by
          show zr_mleaves (zr_msk Un (2 ^ Un) 40 D Gn (v 71) (v 73) (-1) (v 84) (v 76) (v 68 26) (v 80) (v 81) (v 82) (v 79) (v 83)).2.2.2.2.1 (zr_msk Un (2 ^ Un) 40 D Gn (v 71) (v 73) (-1) (v 84) (v 76) (v 68 26) (v 80) (v 81) (v 82) (v 79) (v 83)).2.1 (zf (zl_maskG (zr_msk Un (2 ^ Un) 40 D Gn (v 71) (v 73) (-1) (v 84) (v 76) (v 68 26) (v 80) (v 81) (v 82) (v 79) (v 83)).2.2.2.2.1 (zr_msk Un (2 ^ Un) 40 D Gn (v 71) (v 73) (-1) (v 84) (v 76) (v 68 26) (v 80) (v 81) (v 82) (v 79) (v 83)).2.1) Un 0 (-2)) = _
          rw [g1, g2]
          unfold zr_askLeavesK
          rw [hbe, g2, if_pos (Int32.not_lt.mp (nI_pos (show u < 2 ^ 31 by omega)))]
          exact (by rw [← hZ]; exact zy_leaves (by omega) hsm (hof u hu) : zr_mleaves (zr_msk Un (2 ^ Un) 40 D Gn (v 71) (v 73) (-1) (v 84) (v 76) (v 68 26) (v 80) (v 81) (v 82) (v 79) (v 83)).2.2.2.2.1 (zr_msk Un (2 ^ Un) 40 D Gn (v 71) (v 73) (-1) (v 84) (v 76) (v 68 26) (v 80) (v 81) (v 82) (v 79) (v 83)).2.1 (nI u) = zr_left (v 57 3) (nI u))) (by exact zJ.of 0 (by decide) h.1 rfl rfl)
end ZTL
