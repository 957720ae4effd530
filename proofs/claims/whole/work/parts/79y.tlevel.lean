/-! level: both answer alike, and hold the same behind -/
theorem zI_t_cls {D Mn Gn Un : Nat} {r20 r21 r22 r23 r24 r25 r26 r27 r28 r29 r30 r31 q20 q21 q22 q23 q24 q25 q26 q27 q28 q29 q30 q31 r71 r73 : Nat → Int32} (h : zI_t D Mn Gn Un r20 r21 r22 r23 r24 r25 r26 r27 r28 r29 r30 r31 r71 r73) (e0 : q20 0 = r20 0 ∧ q20 1 = r20 1 ∧ q20 4 = r20 4 ∧ q20 8 = r20 8 ∧ q20 13 = r20 13 ∧ q20 14 = r20 14) (e21 : ∀ i, i < 8 → q21 i = r21 i) (e22 : ∀ i, i < 8 → q22 i = r22 i) (e23 : ∀ i, i < 5 → q23 i = r23 i) (e24 : ∀ i, i < 5 → q24 i = r24 i) (e25 : ∀ i, i < 5 → q25 i = r25 i) (e26 : ∀ i, i < 4 → q26 i = r26 i) (e27 : ∀ i, i < 4 → q27 i = r27 i) (e28 : ∀ i, i < 4 → q28 i = r28 i) (e29 : ∀ i, i < 4 → q29 i = r29 i) (e30 : ∀ i, i < 4 → q30 i = r30 i) (e31 : ∀ i, i < 4 → q31 i = r31 i) : zI_t D Mn Gn Un q20 q21 q22 q23 q24 q25 q26 q27 q28 q29 q30 q31 r71 r73 := by
  obtain ⟨c1, c2, c3, c4, c5, c6, c7, c8, c9⟩ := h
  obtain ⟨a1, a2, a3, a4, a5, a6, a7, a8⟩ := c2
  obtain ⟨x0, x1, x4, x8, x13, x14⟩ := e0
  refine ⟨c1, ⟨x1.trans a1, a2, x4.trans a3, a4, x8.trans a5, a6, x14.trans a7, a8⟩, ?k3, ?k4, ?k5, ?k6, ?k7, ?k8, zI_s_ext c1.2.1 c1.2.2.1 c9 rfl rfl e28 e25 e24 (fun _ _ => rfl)⟩
  case k3 =>
    obtain ⟨b1, hh, b2, b3, b4⟩ := c3
    exact ⟨x13.trans b1, hh, b2, x0.trans b3, b4⟩
  case k4 =>
    intro d hd
    rw [e21 d (by omega), e22 d (by omega)]
    exact c4 d hd
  case k5 =>
    intro e he
    rw [e23 e he]
    exact c5 e he
  case k6 =>
    intro m hm
    rw [e23 m (by omega), e24 m (by omega)]
    exact c6 m hm
  case k7 =>
    intro g hg
    rw [e26 g (by omega), e27 g (by omega), e29 g (by omega)]
    exact c7 g hg
  case k8 =>
    intro u hu
    rw [e30 u (by omega), e31 u (by omega)]
    exact c8 u hu
theorem zp_read_pos {tn : Nat → Nat} {ts : Nat → Int32} {tp : Nat → Nat} {tv : Nat → Int64} {k1 D1 M1 G1 U1 b1 : Nat} {l1 : Nat → Nat → Int32} {S1 : Nat → Int64} : ∀ (n k D Mn Gn Un bg : Nat) (l : Nat → Nat → Int32) (S : Nat → Int64), zp_read tn ts tp tv n k D Mn Gn Un bg l S = .inl (k1, (D1, M1, G1, U1, b1), l1, S1) → 0 < M1 ∧ 0 < G1 := by
  intro n
  induction n with
  | zero => intro k D Mn Gn Un bg l S h; cases h
  | succ n ih =>
    intro k D Mn Gn Un bg l S h
    rw [zp_read_s] at h
    cases hl : zp_line tn ts tp tv k D Mn Gn Un bg l S with
    | inr e => rw [hl] at h; cases h
    | inl a =>
      obtain ⟨k2, ⟨D2, M2, G2, U2, b2⟩, l2, S2⟩ := a
      rw [hl] at h
      have h : zp_rest tn ts tp tv n k2 D2 M2 G2 U2 b2 l2 S2 = .inl (k1, (D1, M1, G1, U1, b1), l1, S1) := h
      unfold zp_rest at h
      split at h
      · split at h
        · rename_i hc
          cases h
          exact hc
        · cases h
      · split at h
        · exact ih _ _ _ _ _ _ _ _ h
        · cases h
section Z79Y
variable {Ls : Nat} {xs : Nat → Int32} {v : Nat → Nat → Int32} {w : Nat → Nat → Int64} {t : zk_H}
theorem zy_MA {E : Nat} (hE9 : E ≤ 900) (hB : zBy E (v 3) (v 69)) : zk_MA Ls xs (zt_n (v 3) E) (zt_s (v 3) E) (zt_p (v 3) E) (zt_v (v 3) E) E (v 69) := by
  refine ⟨fun k hk => zt_nE hE9 hk, fun v' w' t' k hk h3 h69 h5 => ?_⟩
  obtain ⟨q, hq, v2, rfl, m1, m2⟩ := zn_next (Ls := Ls) (xs := xs) (v := v') (w := w') (t := t') (bb := v 3) h3 hE9 (by rw [h69]; exact hB) hk h5
  exact ⟨v2, hq, m1, m2⟩
theorem zy_tok {E : Nat} (hM : zk_MA Ls xs (zt_n (v 3) E) (zt_s (v 3) E) (zt_p (v 3) E) (zt_v (v 3) E) E (v 69)) : zt_ok (zt_n (v 3) E) (zt_s (v 3) E) (zt_v (v 3) E) E := by
  have key : ∀ k, k ≤ E → ∃ u, zMt (zt_n (v 3) E) (zt_s (v 3) E) (zt_p (v 3) E) (zt_v (v 3) E) E k u := by
    intro k hk
    obtain ⟨u, _, h1, _⟩ := hM.2 (zb v 68 (upd (upd (v 68) 3 (nI E)) 5 (nI k))) (fun _ _ => 0) [] k hk rfl rfl rfl
    exact ⟨u, h1⟩
  refine ⟨fun k hk h2 => ?_, fun k hk h3 => ?_, fun k hk h0 => ?_⟩
  · obtain ⟨u, h⟩ := key k hk
    obtain ⟨L, ⟨l1, l8⟩, _, hlt, hv⟩ := h.2.2.2.2.2.2.1 h2
    rw [hv]
    exact zpk_ne l8 l1 hlt
  · obtain ⟨u, h⟩ := key k hk
    obtain ⟨m, h1, _, h2⟩ := h.2.2.2.2.2.1 h3
    exact ⟨m, h1, h2⟩
  · obtain ⟨u, h⟩ := key k hk
    exact h.2.2.2.2.2.2.2.1 h0
theorem zT_level (h : zJ v w) (x : Int32) : zT Ls xs v w t 306 308 [.int x] := by
  have hI := h.1
  obtain ⟨⟨hst0, hfl, ⟨L, hL9, hL1, hL2, hby⟩, hr7, h46, hw16, D0, M0, G0, U0, ht0, hs0, hh0, hz0⟩, htr, hpl⟩ := h
  by_cases hx0 : x < 0
  · exact zT.mk (zK_level_n x hx0) (zM_level_t (v := zb v 0 (upd (v 0) 10 2)) x (by unfold zr_mwithin; rw [if_pos hx0])) rfl (by exact zJ.of 2 (by decide) hI rfl rfl)
  · obtain ⟨E, hE, hxE⟩ := nI_of hx0
    subst hxE
    by_cases hg : L < E
    · exact zT.mk (zK_level_g (L := L) E hE hL9 hL1 hg) (zM_level_t (v := zb v 0 (upd (v 0) 10 2)) (nI E) (by
        show zr_mwithin (nI E) 0 (v 68 2) = 0
        unfold zr_mwithin
        rw [if_neg hx0, hL2, if_pos (nI_lt hg hE)])) rfl (by exact zJ.of 2 (by decide) hI rfl rfl)
    · have hEL : E ≤ L := by omega
      have hE9 : E ≤ 900 := by omega
      have hB : zBy E (v 3) (v 69) := fun k hk => hby k (by omega)
      have hM : zk_MA Ls xs (zt_n (v 3) E) (zt_s (v 3) E) (zt_p (v 3) E) (zt_v (v 3) E) E (v 69) := zy_MA hE9 hB
      have hT := zy_tok hM
      have hR : ∃ q, zk_Cr zk_mt zk_ex Ls xs 303 [.ref 1, .int (nI E)] (zH (zb v 0 (upd (v 0) 10 0)) w t) q ∧ ∃ v0 w0, zQ (zt_n (v 3) E) (zt_s (v 3) E) (zt_p (v 3) E) (zt_v (v 3) E) E t v0 w0 (zp_read (zt_n (v 3) E) (zt_s (v 3) E) (zt_p (v 3) E) (zt_v (v 3) E) (E + 1) 0 0 0 0 0 0 v0 (fun _ => 0)) q ∧ zV0 (zb v 0 (upd (v 0) 10 0)) w v0 w0 := zc_read (v := zb v 0 (upd (v 0) 10 0)) (w := w) (t := t) (Ls := Ls) (xs := xs) hE9 hL9 hEL hL1 hT hw16 hr7
      obtain ⟨q, h1, v0, w0, ⟨v1, w1, hf1, hm1⟩, o1, o2, o3, o4, o5, o6, o7, o8⟩ := hR
      have hL0 : ∀ fr rd : Nat → Int32, (∀ i, i < 53 → fr i = 0) → (∀ i, i < 16 → rd i = 0) → zL 0 0 0 0 0 v0 fr rd := fun fr rd a b => zL_0 o6 o7 (by rw [show v0 7 = v 7 from o8]; exact hr7) a b
      have e16 : ∀ j, j < 7 → w1 16 j = zk_lw j := fun j hj => by rw [hf1.2.2.2.2.1 16 (by decide) (by decide), o5 16 (by decide) (by decide)]; exact hw16 j hj
      have row1 : ∀ r, 20 ≤ r → v1 r = v r := fun r hr => (hf1.1 r (Or.inr hr)).trans ((o1 r (Or.inr hr)).trans (zb_un (by omega)))
      cases hres : zp_read (zt_n (v 3) E) (zt_s (v 3) E) (zt_p (v 3) E) (zt_v (v 3) E) (E + 1) 0 0 0 0 0 0 v0 (fun _ => 0) with
      | inr e =>
        obtain ⟨f, p⟩ := e
        rw [hres] at hm1
        obtain ⟨rfl, m9, m10⟩ : q = (some (.int 0), zH v1 w1 t) ∧ v1 1 9 = f ∧ v1 1 10 = nI p := hm1
        obtain ⟨_, hc, v2, rfl, n1, n2, n3, n4, n5, n6, n7, n8⟩ := zc_level_no hE9 hL9 hEL hL1 h1
        have row2 : ∀ r, 20 ≤ r → v2 r = v r := fun r hr => (n1 r (by omega)).trans (row1 r hr)
        obtain ⟨q3, hc3, v3, hm3⟩ := zm_level (v := v2) (w := w1) (t := t) _ _ _ _ hM hT hE9 hEL hL9 (by rw [row2 68 (by omega)]; exact hL2) (row2 69 (by omega)) hL0
        rw [hres] at hm3
        obtain ⟨rfl, g1, g2, g3, g4, g5, g6, g7, g8⟩ := hm3
        have row3 : ∀ r, 20 ≤ r → r ≠ 68 → r ≠ 70 → r ≠ 72 → r ≠ 74 → v3 r = v r := fun r a b c d e => (g1 r b c d e).trans (row2 r a)
        refine zT.mk hc hc3 rfl ⟨⟨?s1, ?s2, ⟨0, by decide, ?s3, g5, fun k hk => by omega⟩, ?s4, ?s5, e16, D0, M0, G0, U0, ?s6, ?s7, ?s8, ?s9⟩, ?s10, ?s11⟩
        case s1 => rw [g1 0 (by decide) (by decide) (by decide) (by decide), n4, hf1.1 0 (Or.inl rfl), o1 0 (Or.inl rfl), g6, row2 68 (by omega)]; exact hst0
        case s2 => rw [g1 1 (by decide) (by decide) (by decide) (by decide), n2, m9, g3]
        case s3 => rw [g1 2 (by decide) (by decide) (by decide) (by decide), n3]; rfl
        case s4 => rw [g1 7 (by decide) (by decide) (by decide) (by decide), n1 7 (by decide)]; exact hf1.2.2.2.2.2
        case s5 => rw [row3 46 (by omega) (by decide) (by decide) (by decide) (by decide)]; exact h46
        case s6 => rw [row3 20 (by omega) (by decide) (by decide) (by decide) (by decide), row3 21 (by omega) (by decide) (by decide) (by decide) (by decide), row3 22 (by omega) (by decide) (by decide) (by decide) (by decide), row3 23 (by omega) (by decide) (by decide) (by decide) (by decide), row3 24 (by omega) (by decide) (by decide) (by decide) (by decide), row3 25 (by omega) (by decide) (by decide) (by decide) (by decide), row3 26 (by omega) (by decide) (by decide) (by decide) (by decide), row3 27 (by omega) (by decide) (by decide) (by decide) (by decide), row3 28 (by omega) (by decide) (by decide) (by decide) (by decide), row3 29 (by omega) (by decide) (by decide) (by decide) (by decide), row3 30 (by omega) (by decide) (by decide) (by decide) (by decide), row3 31 (by omega) (by decide) (by decide) (by decide) (by decide), row3 71 (by omega) (by decide) (by decide) (by decide) (by decide), row3 73 (by omega) (by decide) (by decide) (by decide) (by decide)]; exact ht0
        case s7 => rw [row3 32 (by omega) (by decide) (by decide) (by decide) (by decide), row3 33 (by omega) (by decide) (by decide) (by decide) (by decide), row3 34 (by omega) (by decide) (by decide) (by decide) (by decide), row3 35 (by omega) (by decide) (by decide) (by decide) (by decide), row3 75 (by omega) (by decide) (by decide) (by decide) (by decide)]; exact hs0
        case s8 => rw [row3 40 (by omega) (by decide) (by decide) (by decide) (by decide), row3 41 (by omega) (by decide) (by decide) (by decide) (by decide), row3 42 (by omega) (by decide) (by decide) (by decide) (by decide), row3 77 (by omega) (by decide) (by decide) (by decide) (by decide), row3 78 (by omega) (by decide) (by decide) (by decide) (by decide), g7, g8, row2 68 (by omega)]; exact hh0
        case s9 => rw [g1 0 (by decide) (by decide) (by decide) (by decide), n4, hf1.1 0 (Or.inl rfl), o1 0 (Or.inl rfl), row3 20 (by omega) (by decide) (by decide) (by decide) (by decide), row3 32 (by omega) (by decide) (by decide) (by decide) (by decide), row3 57 (by omega) (by decide) (by decide) (by decide) (by decide), row3 71 (by omega) (by decide) (by decide) (by decide) (by decide), row3 73 (by omega) (by decide) (by decide) (by decide) (by decide), g7, g8, row2 68 (by omega)]; exact hz0
        case s10 => rw [g1 0 (by decide) (by decide) (by decide) (by decide), n5, g2]
        case s11 => intro _; rw [g1 1 (by decide) (by decide) (by decide) (by decide), n2, m10, g4]
      | inl a =>
        obtain ⟨k3, ⟨D, Mn, Gn, Un, bg⟩, l', S'⟩ := a
        rw [hres] at hm1
        obtain ⟨rfl, m9, hC⟩ : q = (some (.int 1), zH v1 w1 t) ∧ v1 1 9 = v0 1 9 ∧ zCls (zt_n (v 3) E) (zt_s (v 3) E) (zt_p (v 3) E) (zt_v (v 3) E) E k3 D Mn Gn Un bg l' S' v1 w1 := hm1
        obtain ⟨_, _, _, _, ⟨d1, d4, d8, d14⟩, dU, hl⟩ := hC
        obtain ⟨_, _, vx, hmx⟩ := zm_level (v := v) (w := w) (t := t) _ _ _ _ hM hT hE9 hEL hL9 hL2 rfl hL0
        rw [hres] at hmx
        obtain ⟨_, _, _, _, _, _, _, _, Lx, _⟩ := hmx
        have hb5 := Lx.1.1
        obtain ⟨_, hc, v2, rfl, nn, r59, r61, r62, r63, y3, y4, y5, y6, y7, w2, w3, w4⟩ := zc_level_ok hE9 hL9 hEL hL1 (D := D) (Gn := Gn) (Un := Un) ⟨hb5.1, hb5.2.2.1, hb5.2.2.2⟩ ⟨d1, d8, d14⟩ (fun a ha => by
          rw [hl 12 (by decide) (by decide)]
          rcases Lx.1.2.2.2.2.2.2.2.2.2.2.1 a ha with ⟨_, z⟩ | ⟨e, he, _, z⟩
          · rw [z]; exact Or.inl (by decide)
          · exact Or.inr ⟨e, by omega, z⟩) hf1.2.2.2.2.2 h1
        obtain ⟨f0, f1, f2, f3, f4, f5, f6, f7, f8, f9, f10, f11, f12, f13, f14, f15, f16, f17, f18, f19, f20, f21, f22, f23, f24, f25, f26, f27, f28, f29, f30, f31, nrows⟩ := nn
        have row2 : ∀ r, 63 < r → v2 r = v r := fun r hr => (nrows r hr).trans (row1 r (by omega))
        obtain ⟨q3, hc3, v3, hm3⟩ := zm_level (v := v2) (w := w1) (t := t) _ _ _ _ hM hT hE9 hEL hL9 (by rw [row2 68 (by omega)]; exact hL2) (row2 69 (by omega)) hL0
        rw [hres] at hm3
        obtain ⟨rfl, g1, g2, g3, g4, g5, g6, g7, L3, g9⟩ := hm3
        have row3 : ∀ r, r ≠ 68 → r ≠ 70 → r ≠ 71 → r ≠ 72 → r ≠ 73 → r ≠ 74 → r ≠ 75 → v3 r = v2 r := g1
        have htx : zI_t D Mn Gn Un (v2 20) (v2 21) (v2 22) (v2 23) (v2 24) (v2 25) (v2 26) (v2 27) (v2 28) (v2 29) (v2 30) (v2 31) (v3 71) (v3 73) := zI_t_cls L3.1 ⟨f7.trans (congrFun (hl 4 (by decide) (by decide)) 0), f8.trans (congrFun (hl 4 (by decide) (by decide)) 1), f9.trans (congrFun (hl 4 (by decide) (by decide)) 4), f10.trans (congrFun (hl 4 (by decide) (by decide)) 8), f11.trans (congrFun (hl 4 (by decide) (by decide)) 13), f12.trans (congrFun (hl 4 (by decide) (by decide)) 14)⟩ (fun i hi => (f13 i hi).trans (congrFun (hl 5 (by decide) (by decide)) i)) (fun i hi => (f14 i hi).trans (congrFun (hl 6 (by decide) (by decide)) i)) (fun i hi => (f15 i hi).trans (congrFun (hl 7 (by decide) (by decide)) i)) (fun i hi => (f16 i hi).trans (congrFun (hl 8 (by decide) (by decide)) i)) (fun i hi => (f17 i hi).trans (congrFun (hl 9 (by decide) (by decide)) i)) (fun i hi => (f18 i hi).trans (congrFun (hl 10 (by decide) (by decide)) i)) (fun i hi => (f19 i hi).trans (congrFun (hl 11 (by decide) (by decide)) i)) (fun i hi => (f20 i hi).trans (congrFun (hl 12 (by decide) (by decide)) i)) (fun i hi => (f21 i hi).trans (congrFun (hl 13 (by decide) (by decide)) i)) (fun i hi => (f22 i hi).trans (congrFun (hl 14 (by decide) (by decide)) i)) (fun i hi => (f23 i hi).trans (congrFun (hl 15 (by decide) (by decide)) i))
        obtain ⟨hp1, hp2⟩ := zp_read_pos _ _ _ _ _ _ _ _ _ hres
        obtain ⟨kh, ph, ih, ⟨_, hp16, _⟩, ⟨_, _, hp, _, _⟩, _⟩ := hh0
        refine zT.mk hc hc3 rfl ⟨⟨?s1, ?s2, ⟨0, by decide, ?s3, g4, fun k hk => by omega⟩, ?s4, ?s5, e16, D, Mn, Gn, Un, ?s6, ?s7, ⟨0, ph, 0, ⟨by decide, hp16, by decide⟩, ⟨?p1, g6, ?p2, ?p3, g7⟩, fun j hj => by omega, fun j hj => by omega⟩, Or.inr ⟨?s8, hp1, hp2, ?s9⟩⟩, ?s10, ?s11⟩
        case s1 => rw [row3 0 (by decide) (by decide) (by decide) (by decide) (by decide) (by decide) (by decide), f0, g5]
        case s2 => rw [row3 1 (by decide) (by decide) (by decide) (by decide) (by decide) (by decide) (by decide), f2, m9, o4, g3]
        case s3 => rw [row3 2 (by decide) (by decide) (by decide) (by decide) (by decide) (by decide) (by decide), f3]; rfl
        case s4 => rw [row3 7 (by decide) (by decide) (by decide) (by decide) (by decide) (by decide) (by decide), f5]; exact hf1.2.2.2.2.2
        case s5 => rw [row3 46 (by decide) (by decide) (by decide) (by decide) (by decide) (by decide) (by decide), f6, row1 46 (by omega)]; exact h46
        case s6 => rw [row3 20 (by decide) (by decide) (by decide) (by decide) (by decide) (by decide) (by decide), row3 21 (by decide) (by decide) (by decide) (by decide) (by decide) (by decide) (by decide), row3 22 (by decide) (by decide) (by decide) (by decide) (by decide) (by decide) (by decide), row3 23 (by decide) (by decide) (by decide) (by decide) (by decide) (by decide) (by decide), row3 24 (by decide) (by decide) (by decide) (by decide) (by decide) (by decide) (by decide), row3 25 (by decide) (by decide) (by decide) (by decide) (by decide) (by decide) (by decide), row3 26 (by decide) (by decide) (by decide) (by decide) (by decide) (by decide) (by decide), row3 27 (by decide) (by decide) (by decide) (by decide) (by decide) (by decide) (by decide), row3 28 (by decide) (by decide) (by decide) (by decide) (by decide) (by decide) (by decide), row3 29 (by decide) (by decide) (by decide) (by decide) (by decide) (by decide) (by decide), row3 30 (by decide) (by decide) (by decide) (by decide) (by decide) (by decide) (by decide), row3 31 (by decide) (by decide) (by decide) (by decide) (by decide) (by decide) (by decide)]; exact htx
        case s7 => rw [row3 32 (by decide) (by decide) (by decide) (by decide) (by decide) (by decide) (by decide), row3 33 (by decide) (by decide) (by decide) (by decide) (by decide) (by decide) (by decide), row3 34 (by decide) (by decide) (by decide) (by decide) (by decide) (by decide) (by decide), row3 35 (by decide) (by decide) (by decide) (by decide) (by decide) (by decide) (by decide)]; exact zI_s_ext hb5.2.1 hb5.2.2.1 htx.2.2.2.2.2.2.2.2 f24 f25 (fun g hg => (f26 g hg).trans (f20 g hg).symm) (fun m hm => (f27 m hm).trans (f17 m hm).symm) (fun m hm => (f28 m hm).trans (f16 m hm).symm) g9
        case p1 => rw [row3 40 (by decide) (by decide) (by decide) (by decide) (by decide) (by decide) (by decide), f30]; rfl
        case p2 => rw [row3 40 (by decide) (by decide) (by decide) (by decide) (by decide) (by decide) (by decide), f29, row1 40 (by omega)]; exact hp
        case p3 => rw [row3 40 (by decide) (by decide) (by decide) (by decide) (by decide) (by decide) (by decide), f31]; rfl
        case s8 => rw [row3 0 (by decide) (by decide) (by decide) (by decide) (by decide) (by decide) (by decide), f0]
        case s9 => rw [row3 57 (by decide) (by decide) (by decide) (by decide) (by decide) (by decide) (by decide)]; exact zy_weigh htx (N := 2 ^ Un) rfl r59 r61 r62 r63 y3 y4 y5 y6 y7 w2 w3 w4
        case s10 => rw [row3 0 (by decide) (by decide) (by decide) (by decide) (by decide) (by decide) (by decide), f1, g2]
        case s11 => intro z; rw [row3 0 (by decide) (by decide) (by decide) (by decide) (by decide) (by decide) (by decide), f1] at z; exact absurd z (by decide)
end Z79Y
