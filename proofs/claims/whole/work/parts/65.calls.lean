/-! ties: years to come -/
section ZTM
variable {Ls : Nat} {xs : Nat → Int32} {v v1 v2 : Nat → Nat → Int32} {w w1 w2 : Nat → Nat → Int64} {t : zk_H} {k1 k2 : Nat} {as : List Value}
theorem zT.mk {a b : Int32} (h1 : zk_Cr zk_mt zk_ex Ls xs k1 (.ref 0 :: as) (zH v w t) (some (.int a), zH v1 w1 t)) (h2 : zk_Cr zk_mt zk_ex Ls xs k2 (.ref 69 :: as) (zH v1 w1 t) (some (.int b), zH v2 w2 t)) (e : b = a) (hj : zJ v2 w2) : zT Ls xs v w t k1 k2 as :=
  ⟨.int a, v1, w1, v2, w2, h1, by rw [e] at h2; exact h2, hj⟩
theorem zT.ml {a b : Int64} (h1 : zk_Cr zk_mt zk_ex Ls xs k1 (.ref 0 :: as) (zH v w t) (some (.long a), zH v1 w1 t)) (h2 : zk_Cr zk_mt zk_ex Ls xs k2 (.ref 69 :: as) (zH v1 w1 t) (some (.long b), zH v2 w2 t)) (e : b = a) (hj : zJ v2 w2) : zT Ls xs v w t k1 k2 as :=
  ⟨.long a, v1, w1, v2, w2, h1, by rw [e] at h2; exact h2, hj⟩
theorem zJ.of (k : Int32) (hk : ¬ k = 4) (hc : zI v w) (h1 : v 0 10 = k) (h2 : v 68 11 = k) : zJ v w := ⟨hc, h1.trans h2.symm, fun z => absurd (h1.symm.trans z) hk⟩
end ZTM
theorem zl_mbD_at (lt : Nat → Int32) : ∀ (n i : Nat) (d : Nat), d < i + n → (d < i → lt d = 0) → zf (zl_mbDG ) n i lt d = 0
  | 0, i, d, h, h2 => h2 (by omega)
  | n + 1, i, d, h, h2 => by
    rw [zf_succ]
    refine zl_mbD_at _ n (i + 1) d (by omega) (fun h3 => ?_)
    show upd lt i 0 d = 0
    by_cases e : d = i
    · rw [e, pk_us]
    · rw [pk_un e]; exact h2 (by omega)
theorem zl_mbM_at (oo : Nat → Int32) : ∀ (n i : Nat) (d : Nat), d < i + n → (d < i → oo d = 0) → zf (zl_mbMG ) n i oo d = 0
  | 0, i, d, h, h2 => h2 (by omega)
  | n + 1, i, d, h, h2 => by
    rw [zf_succ]
    refine zl_mbM_at _ n (i + 1) d (by omega) (fun h3 => ?_)
    show upd oo i 0 d = 0
    by_cases e : d = i
    · rw [e, pk_us]
    · rw [pk_un e]; exact h2 (by omega)
theorem zl_mnoS_at (oo : Nat → Int32) : ∀ (n i : Nat) (d : Nat), d < i + n → (d < i → oo d = 0) → zf (zl_mnoSlipsG ) n i oo d = 0
  | 0, i, d, h, h2 => h2 (by omega)
  | n + 1, i, d, h, h2 => by
    rw [zf_succ]
    refine zl_mnoS_at _ n (i + 1) d (by omega) (fun h3 => ?_)
    show upd oo i 0 d = 0
    by_cases e : d = i
    · rw [e, pk_us]
    · rw [pk_un e]; exact h2 (by omega)
theorem zl_mbG_at (lw : Nat → Int32) : ∀ (n i : Nat) (d : Nat), d < i + n → (d < i → lw d = -2) → zf (zl_mbGG ) n i lw d = -2
  | 0, i, d, h, h2 => h2 (by omega)
  | n + 1, i, d, h, h2 => by
    rw [zf_succ]
    refine zl_mbG_at _ n (i + 1) d (by omega) (fun h3 => ?_)
    show upd lw i (-2) d = -2
    by_cases e : d = i
    · rw [e, pk_us]
    · rw [pk_un e]; exact h2 (by omega)
theorem zr_mnoS_at (slp : Nat → Int32) {e : Nat} (he : e < 5) : zr_mnoSlips slp e = 0 := zl_mnoS_at slp 5 0 e (by omega) (fun h => absurd h (Nat.not_lt_zero _))
theorem zr_mbegin_x (st row lt lw oo slp : Nat → Int32) : (zr_mbegin st row lt lw oo slp).2.1 = 0 ∧ (∀ d, d < 8 → (zr_mbegin st row lt lw oo slp).2.2.1 d = 0) ∧ (∀ a, a < 4 → (zr_mbegin st row lt lw oo slp).2.2.2.1 a = -2) ∧ (∀ e, e < 5 → (zr_mbegin st row lt lw oo slp).2.2.2.2.1 e = 0) :=
  ⟨rfl, fun d hd => zl_mbD_at lt 8 0 d (by omega) (fun h => absurd h (Nat.not_lt_zero _)), fun a ha => zl_mbG_at lw 4 0 a (by omega) (fun h => absurd h (Nat.not_lt_zero _)), fun e he => zl_mbM_at oo 5 0 e (by omega) (fun h => absurd h (Nat.not_lt_zero _))⟩
theorem zr_mbegin_s (st row lt lw oo slp : Nat → Int32) {e : Nat} (he : e < 5) : (zr_mbegin st row lt lw oo slp).2.2.2.2.2 e = 0 := zr_mnoS_at slp he
theorem zI_s_of {D Mn Gn : Nat} {ys lo : Int32} {li th la row row' : Nat → Int32} (hM : Mn ≤ 5) (hG : Gn ≤ 4) (h : zI_s D Mn Gn ys lo li th la row) (e : ∀ i, i < 16 → row' i = row i) : zI_s D Mn Gn ys lo li th la row' := by
  obtain ⟨⟨Y, h1, h2, h3⟩, h4, h5, h6, h7, h8⟩ := h
  refine ⟨⟨Y, h1, h2, (e 15 (by omega)).trans h3⟩, h4.trans (e 14 (by omega)).symm, ?_, ?_, ?_, ?_⟩
  · intro g hg; rw [e _ (by omega)]; exact h5 g hg
  · intro a b ha hb; rw [e _ (by omega), e _ (by omega)]; exact h6 a b ha hb
  · intro m hm; rw [e _ (by omega)]; exact h7 m hm
  · intro m hm; rw [e _ (by omega)]; exact h8 m hm
section ZY2
variable {D Mn Gn Un : Nat} {r20 r21 r22 r23 r24 r25 r26 r27 r28 r29 r30 r31 r71 r73 : Nat → Int32} {ys lo : Int32} {li th la st : Nat → Int32}
theorem zy_lie (ht : zI_t D Mn Gn Un r20 r21 r22 r23 r24 r25 r26 r27 r28 r29 r30 r31 r71 r73) (hs : zI_s D Mn Gn ys lo li th la st) : zk_lie Gn st := by
  intro a ha
  rcases hs.2.2.1 a ha with ⟨h, _⟩ | ⟨e, he, h, _⟩
  · exact Or.inl h
  · exact Or.inr ⟨e, by have := ht.1.2.1; omega, h⟩
theorem zy_ev (ht : zI_t D Mn Gn Un r20 r21 r22 r23 r24 r25 r26 r27 r28 r29 r30 r31 r71 r73) : ∀ d, d < D → ¬ r71 (7 + 2 * d) = 0 := by
  intro d hd
  obtain ⟨_, _, ⟨V, h1, h2, h3⟩, _⟩ := ht.2.2.2.1 d hd
  rw [h3]
  exact nI_ne0 (by omega) (by omega)
theorem zy_li5 (hM : Mn ≤ 5) (hs : zI_s D Mn Gn ys lo li th la st) : ∀ a, a < Gn → li a < 0 ∨ ∃ e, e < 5 ∧ li a = nI e := by
  intro a ha
  rcases zy_li hs.w a ha with h | ⟨e, he, h⟩
  · exact Or.inl h
  · exact Or.inr ⟨e, by omega, h⟩
/-- n years, as both reckon them -/
theorem zy_both (ht : zI_t D Mn Gn Un r20 r21 r22 r23 r24 r25 r26 r27 r28 r29 r30 r31 r71 r73) (hs : zI_s D Mn Gn ys lo li th la st) {sl : Nat → Int32} (h46 : ∀ e, e < 5 → sl e = 0) {n : Nat} (hn : n ≤ 60) (r45 r47 r48 r49 r50 r51 j76 j80 j81 j82 j79 : Nat → Int32) (w3 w4 w5 w6 w7 : Int32) {z : zq_S} {q : (Nat → Int32) × Int32 × (Nat → Int32) × (Nat → Int32) × (Nat → Int32) × (Nat → Int32)}
    (hz : z = zf (zl_rsGG (zf (zl_aimG D r21 r22 ys) n 1 r45) ys n r27 r26 th la r23 sl li lo) Gn 0 (0, lo, r47, r48, (zf (zl_rsMG la) Mn 0 (r49, r50, r51)).1, (zf (zl_rsMG la) Mn 0 (r49, r50, r51)).2.1, (zf (zl_rsMG la) Mn 0 (r49, r50, r51)).2.2, w3, w4, w5, w6, w7)) (hq : q = zr_myears n D Gn r71 st j76 j80 j81 j82 j79) :
    zr_mworth Gn r71 q.1 = z.1 ∧ q.1 14 = z.2.1 ∧ (∀ a, a < Gn → q.2.2.2.1 a = z.2.2.2.1 a) ∧ (∀ e, e < Mn → q.1 e = z.2.2.2.2.2.1 e ∧ q.2.2.2.2.1 e = z.2.2.2.2.2.2.1 e) ∧ q.2.1 = zs Mn z.2.2.2.2.2.2.1 ∧ (∀ d, d < 8 → q.2.2.1 d = zs Gn (fun a => if z.2.2.2.1 a = nI d then r26 a else 0)) := by
  have hM := ht.1.2.1
  have hG := ht.1.2.2.1
  have hs2 : zI_s D Mn Gn ys lo li th la (zr_mbegin st j76 j80 j81 j82 j79).1 := zI_s_of hM hG hs (fun i hi => zr_mbegin_row _ _ _ _ _ _ hi)
  have hx := zr_mbegin_x st j76 j80 j81 j82 j79
  obtain ⟨c, hc, hR, _⟩ := zy_main ht hs2.w (slp := (zr_mbegin st j76 j80 j81 j82 j79).2.2.2.2.2) (sl := sl) (fun e he => by rw [zr_mbegin_s _ _ _ _ _ _ (by omega), h46 e (by omega)]) True (zr_mbegin st j76 j80 j81 j82 j79).2.1 (zr_mbegin st j76 j80 j81 j82 j79).2.2.1 (zr_mbegin st j76 j80 j81 j82 j79).2.2.2.1 (zr_mbegin st j76 j80 j81 j82 j79).2.2.2.2.1 (fun _ => hx) hn (sk := zf (zl_aimG D r21 r22 ys) n 1 r45) (fun j h1 h2 => zl_aim_at D r21 r22 ys n 1 r45 j h1 (by omega))
  have hQ := zq_goods (sk := zf (zl_aimG D r21 r22 ys) n 1 r45) (yg := ys) (sp := n) (fe := r27) (wr := r26) (th := th) (la := la) (kd := r23) (slp := sl) (li := li) (lo := lo) hG (zy_li hs.w) hM (zy_dis hM hs.w) r47 r48 r49 r50 r51 w3 w4 w5 w6 w7
  have ho := zy_out ht hs2.w (X := True) trivial hc hR hQ
  rw [← hz] at ho
  rw [hq]
  exact ho
end ZY2
theorem zy_kept (Mn : Nat) (kp : Nat → Int32) : zr_keptInAll Mn kp = zs Mn kp := rfl
theorem zy_busyN {kp oo : Nat → Int32} (n : Nat) (h : ∀ e, e ≤ n → oo e = kp e) : zf (zl_mbusyG oo) n 1 0 = zf (zl_busiestG kp) n 1 0 := by
  have key := zf_rel (G := zl_mbusyG oo) (H := zl_busiestG kp) (P := fun _ a b => a = b ∧ b ≤ n) n 1 0 0 ⟨rfl, Nat.zero_le _⟩ ?_
  · exact key.1
  · intro j a b hj1 hj2 hp
    obtain ⟨h1, hb⟩ := hp
    subst h1
    have e1 := h j (by omega)
    have e2 := h a hb
    have e3 : zl_mbusyG oo j a = zl_busiestG kp j a := by
      unfold zl_mbusyG zl_busiestG
      simp only
      rw [e1, e2]
    refine ⟨e3, ?_⟩
    unfold zl_busiestG
    simp only
    split
    · exact hb
    · omega
theorem zy_busy {Mn : Nat} (hM : 1 ≤ Mn) {kp oo : Nat → Int32} (h : ∀ e, e < Mn → oo e = kp e) : zf (zl_mbusyG oo) (Mn - 1) 1 0 = zf (zl_busiestG kp) (Mn - 1) 1 0 := zy_busyN (Mn - 1) (fun e he => h e (by omega))
theorem zy_harm (Gn : Nat) (lt wr : Nat → Int32) (d : Int32) : zr_harmBy Gn lt wr d = zs Gn (fun a => if lt a = d then wr a else 0) := by
  unfold zr_harmBy zs
  refine zf_congr Gn 0 0 (fun j s _ _ => ?_)
  unfold zl_harmByG
  simp only
  split
  · rfl
  · rw [Int32.add_zero]
theorem zy_worst {D Gn : Nat} (hD : D ≤ 8) {lt wr l2 : Nat → Int32} (h : ∀ d, d < D → l2 d = zr_harmBy Gn lt wr (nI d)) : zf (zl_mworstG l2) D 0 (-2) = zr_worst D Gn lt wr := by
  have key := zf_rel (G := zl_mworstG l2) (H := zl_worstG Gn lt wr) (P := fun _ b s => b = s.1 ∧ ((b = -2 ∧ s.2 = 0) ∨ ∃ x, x < D ∧ b = nI x ∧ s.2 = l2 x)) D 0 (-2) (-2, 0) ⟨rfl, Or.inl ⟨rfl, rfl⟩⟩ ?_
  · exact key.1
  · intro j b s hj1 hj2 hp
    obtain ⟨wo, mo⟩ := s
    obtain ⟨h1, h2⟩ := hp
    have h1 : b = wo := h1
    subst h1
    unfold zl_mworstG zl_worstG
    simp only
    rw [← h j (by omega)]
    rcases h2 with ⟨h3, h4⟩ | ⟨x, hx, h3, h4⟩
    · have h4 : mo = 0 := h4
      rw [if_neg (by rw [h3]; decide), h4]
      split
      · exact ⟨rfl, Or.inl ⟨h3, rfl⟩⟩
      · exact ⟨rfl, Or.inr ⟨j, by omega, rfl, rfl⟩⟩
    · have h4 : mo = l2 x := h4
      rw [if_pos (by rw [h3]; exact nI_pos' (by omega)), h4, show b.toNatClampNeg = x by rw [h3]; exact nI_clamp (by omega)]
      split
      · exact ⟨rfl, Or.inr ⟨x, hx, h3, rfl⟩⟩
      · exact ⟨rfl, Or.inr ⟨j, by omega, rfl, rfl⟩⟩
section ZTA
variable {Ls : Nat} {xs : Nat → Int32} {v : Nat → Nat → Int32} {w : Nat → Nat → Int64} {t : zk_H}
theorem zT_worthIn (h : zJ v w) (x : Int32) : zT Ls xs v w t 284 274 [.int x] := by
  rcases h.st with hst | hst
  · exact zT.mk (zK_worthIn_t x hst) (zM_worthIn_t x (h.lv.trans hst)) rfl (by exact zJ.of 1 (by decide) h.1 rfl rfl)
  · rcases zt_ah x with ⟨ho, hw⟩ | ⟨n, hn, rfl⟩
    · exact zT.mk (zK_worthIn_o x hst ho) (zM_worthIn_o x (h.lv.trans hst) hw) rfl (by exact zJ.of 2 (by decide) h.1 rfl rfl)
    · obtain ⟨_, _, _, _, h46, _, D, Mn, Gn, Un, ht, hs, _, hz⟩ := h.1
      have hb := zy_both ht hs h46 hn (v 45) (v 47) (v 48) (v 49) (v 50) (v 51) (v 76) (v 80) (v 81) (v 82) (v 79) (v 44 3) (v 44 4) (v 44 5) (v 44 6) (v 44 7) rfl rfl
      exact zT.mk (zK_worthIn_f hst D ht.2.1.1 ht.1.1 Mn ht.2.1.2.2.1 ht.1.2.1 Gn ht.2.1.2.2.2.2.1 ht.1.2.2.1 (zy_li5 ht.1.2.1 hs) ht.2.2.2.2.1 n hn) (zM_worthIn_f (v := zvR_now (zb v 0 (upd (v 0) 10 0)) D Mn Gn n) (h.lv.trans hst) n hn D ht.2.1.2.1 ht.1.1 Gn ht.2.1.2.2.2.2.2.1 ht.1.2.2.1 (zy_ev ht) (zy_lie ht hs)) hb.1 (by exact zJ.of 0 (by decide) h.1 rfl rfl)
theorem zT_lost (h : zJ v w) (x : Int32) : zT Ls xs v w t 278 265 [.int x] := by
  rcases h.st with hst | hst
  · exact zT.mk (zK_lost_t x hst) (zM_lost_t x (h.lv.trans hst)) rfl (by exact zJ.of 1 (by decide) h.1 rfl rfl)
  · rcases zt_ah x with ⟨ho, hw⟩ | ⟨n, hn, rfl⟩
    · exact zT.mk (zK_lost_o x hst ho) (zM_lost_o x (h.lv.trans hst) hw) rfl (by exact zJ.of 2 (by decide) h.1 rfl rfl)
    · obtain ⟨_, _, _, _, h46, _, D, Mn, Gn, Un, ht, hs, _, hz⟩ := h.1
      have hb := zy_both ht hs h46 hn (v 45) (v 47) (v 48) (v 49) (v 50) (v 51) (v 76) (v 80) (v 81) (v 82) (v 79) (v 44 3) (v 44 4) (v 44 5) (v 44 6) (v 44 7) rfl rfl
      exact zT.mk (zK_lost_f hst D ht.2.1.1 ht.1.1 Mn ht.2.1.2.2.1 ht.1.2.1 Gn ht.2.1.2.2.2.2.1 ht.1.2.2.1 (zy_li5 ht.1.2.1 hs) ht.2.2.2.2.1 n hn) (zM_lost_f (v := zvR_now (zb v 0 (upd (v 0) 10 0)) D Mn Gn n) (h.lv.trans hst) n hn D ht.2.1.2.1 ht.1.1 Gn ht.2.1.2.2.2.2.2.1 ht.1.2.2.1 (zy_ev ht) (zy_lie ht hs)) hb.2.1 (by exact zJ.of 0 (by decide) h.1 rfl rfl)
theorem zT_keptOut (h : zJ v w) (x : Int32) : zT Ls xs v w t 276 261 [.int x] := by
  rcases h.st with hst | hst
  · exact zT.mk (zK_keptOut_t x hst) (zM_keptOut_t x (h.lv.trans hst)) rfl (by exact zJ.of 1 (by decide) h.1 rfl rfl)
  · rcases zt_ah x with ⟨ho, hw⟩ | ⟨n, hn, rfl⟩
    · exact zT.mk (zK_keptOut_o x hst ho) (zM_keptOut_o x (h.lv.trans hst) hw) rfl (by exact zJ.of 2 (by decide) h.1 rfl rfl)
    · obtain ⟨_, _, _, _, h46, _, D, Mn, Gn, Un, ht, hs, _, hz⟩ := h.1
      have hb := zy_both ht hs h46 hn (v 45) (v 47) (v 48) (v 49) (v 50) (v 51) (v 76) (v 80) (v 81) (v 82) (v 79) (v 44 3) (v 44 4) (v 44 5) (v 44 6) (v 44 7) rfl rfl
      exact zT.mk (zK_keptOut_f hst D ht.2.1.1 ht.1.1 Mn ht.2.1.2.2.1 ht.1.2.1 Gn ht.2.1.2.2.2.2.1 ht.1.2.2.1 (zy_li5 ht.1.2.1 hs) ht.2.2.2.2.1 n hn) (zM_keptOut_f (v := zvR_now (zb v 0 (upd (v 0) 10 0)) D Mn Gn n) (h.lv.trans hst) n hn D ht.2.1.2.1 ht.1.1 Gn ht.2.1.2.2.2.2.2.1 ht.1.2.2.1 (zy_ev ht) (zy_lie ht hs)) hb.2.2.2.2.1 (by exact zJ.of 0 (by decide) h.1 rfl rfl)
theorem zT_busiest (h : zJ v w) (x : Int32) : zT Ls xs v w t 275 257 [.int x] := by
  rcases h.st with hst | hst
  · exact zT.mk (zK_busiest_t x hst) (zM_busiest_t x (h.lv.trans hst)) rfl (by exact zJ.of 1 (by decide) h.1 rfl rfl)
  · rcases zt_ah x with ⟨ho, hw⟩ | ⟨n, hn, rfl⟩
    · exact zT.mk (zK_busiest_o x hst ho) (zM_busiest_o x (h.lv.trans hst) hw) rfl (by exact zJ.of 2 (by decide) h.1 rfl rfl)
    · obtain ⟨_, _, _, _, h46, _, D, Mn, Gn, Un, ht, hs, _, hz⟩ := h.1
      have hb := zy_both ht hs h46 hn (v 45) (v 47) (v 48) (v 49) (v 50) (v 51) (v 76) (v 80) (v 81) (v 82) (v 79) (v 44 3) (v 44 4) (v 44 5) (v 44 6) (v 44 7) rfl rfl
      have hM1 : 1 ≤ Mn := hz.elim (fun hz => absurd (hz.1.symm.trans hst) (by decide)) (fun hz => hz.2.1)
      exact zT.mk (zK_busiest_f hst D ht.2.1.1 ht.1.1 Mn ht.2.1.2.2.1 ht.1.2.1 Gn ht.2.1.2.2.2.2.1 ht.1.2.2.1 (zy_li5 ht.1.2.1 hs) ht.2.2.2.2.1 n hn) (zM_busiest_f (v := zvR_now (zb v 0 (upd (v 0) 10 0)) D Mn Gn n) (h.lv.trans hst) n hn D ht.2.1.2.1 ht.1.1 Gn ht.2.1.2.2.2.2.2.1 ht.1.2.2.1 (zy_ev ht) (zy_lie ht hs) Mn ht.2.1.2.2.2.1 ht.1.2.1) (congrArg nI (zy_busy hM1 (fun e he => (hb.2.2.2.1 e he).2))) (by exact zJ.of 0 (by decide) h.1 rfl rfl)
theorem zT_worst (h : zJ v w) (x : Int32) : zT Ls xs v w t 282 273 [.int x] := by
  rcases h.st with hst | hst
  · exact zT.mk (zK_worst_t x hst) (zM_worst_t x (h.lv.trans hst)) rfl (by exact zJ.of 1 (by decide) h.1 rfl rfl)
  · rcases zt_ah x with ⟨ho, hw⟩ | ⟨n, hn, rfl⟩
    · exact zT.mk (zK_worst_o x hst ho) (zM_worst_o x (h.lv.trans hst) hw) rfl (by exact zJ.of 2 (by decide) h.1 rfl rfl)
    · obtain ⟨_, _, _, _, h46, _, D, Mn, Gn, Un, ht, hs, _, hz⟩ := h.1
      have hb := zy_both ht hs h46 hn (v 45) (v 47) (v 48) (v 49) (v 50) (v 51) (v 76) (v 80) (v 81) (v 82) (v 79) (v 44 3) (v 44 4) (v 44 5) (v 44 6) (v 44 7) rfl rfl
      exact zT.mk (zK_worst_f hst D ht.2.1.1 ht.1.1 Mn ht.2.1.2.2.1 ht.1.2.1 Gn ht.2.1.2.2.2.2.1 ht.1.2.2.1 (zy_li5 ht.1.2.1 hs) ht.2.2.2.2.1 n hn) (zM_worst_f (v := zvR_now (zb v 0 (upd (v 0) 10 0)) D Mn Gn n) (h.lv.trans hst) n hn D ht.2.1.2.1 ht.1.1 Gn ht.2.1.2.2.2.2.2.1 ht.1.2.2.1 (zy_ev ht) (zy_lie ht hs)) (zy_worst ht.1.1 (fun d hd => (hb.2.2.2.2.2 d (by have := ht.1.1; omega)).trans (zy_harm _ _ _ _).symm)) (by exact zJ.of 0 (by decide) h.1 rfl rfl)
theorem zT_worth (h : zJ v w) : zT Ls xs v w t 283 184 [] := by
  rcases h.st with hst | hst
  · exact zT.mk (zK_worth_t hst) (zM_worth_t (h.lv.trans hst)) rfl (by exact zJ.of 1 (by decide) h.1 rfl rfl)
  · obtain ⟨_, _, _, _, h46, _, D, Mn, Gn, Un, ht, hs, _, hz⟩ := h.1
    have hb := zy_both ht hs h46 (Nat.zero_le 60) (v 45) (v 47) (v 48) (v 49) (v 50) (v 51) (v 76) (v 80) (v 81) (v 82) (v 79) (v 44 3) (v 44 4) (v 44 5) (v 44 6) (v 44 7) rfl rfl
    have e : zr_mworth Gn (v 71) (v 75) = zr_mworth Gn (v 71) (zr_myears 0 D Gn (v 71) (v 75) (v 76) (v 80) (v 81) (v 82) (v 79)).1 := by
      unfold zr_mworth
      refine zf_congr Gn 0 0 (fun j s _ _ => ?_)
      unfold zl_mworthG
      simp only
      rw [show (zr_myears 0 D Gn (v 71) (v 75) (v 76) (v 80) (v 81) (v 82) (v 79)).1 14 = v 75 14 from zr_mbegin_row _ _ _ _ _ _ (by decide)]
    exact zT.mk (zK_worth_f hst D ht.2.1.1 ht.1.1 Mn ht.2.1.2.2.1 ht.1.2.1 Gn ht.2.1.2.2.2.2.1 ht.1.2.2.1 (zy_li5 ht.1.2.1 hs) ht.2.2.2.2.1) (zM_worth_f (v := zvR_now (zb v 0 (upd (v 0) 10 0)) D Mn Gn 0) (h.lv.trans hst) Gn ht.2.1.2.2.2.2.2.1 ht.1.2.2.1) (e.trans hb.1) (by exact zJ.of 0 (by decide) h.1 rfl rfl)
theorem zT_lostBy (h : zJ v w) (x : Int32) : zT Ls xs v w t 279 266 [.int x] := by
  obtain ⟨_, _, _, _, h46, _, D, Mn, Gn, Un, ht, hs, _, hz⟩ := h.1
  rcases zt_isX h.st (show Gn ≤ 8 by have := ht.1.2.2.1; omega) x with ⟨hx, hg⟩ | ⟨hst, a, ha, rfl, hg⟩
  · rw [← ht.2.1.2.2.2.2.1] at hx
    rw [← h.lv, ← ht.2.1.2.2.2.2.2.1] at hg
    exact zT.mk (zK_lostBy_t x hx) (zM_lostBy_t x hg) rfl (by exact zJ.of 1 (by decide) h.1 rfl rfl)
  · rw [← h.lv, ← ht.2.1.2.2.2.2.2.1] at hg
    have hK := zK_lostBy_f (w := w) (t := t) (Ls := Ls) (xs := xs) hst D ht.2.1.1 ht.1.1 Mn ht.2.1.2.2.1 ht.1.2.1 Gn ht.2.1.2.2.2.2.1 ht.1.2.2.1 (zy_li5 ht.1.2.1 hs) ht.2.2.2.2.1 a ha
    obtain ⟨n, hn⟩ : ∃ n : Nat, n = 60 := ⟨60, rfl⟩
    rw [← hn] at hK
    have hb := zy_both ht hs h46 (show n ≤ 60 by omega) (v 45) (v 47) (v 48) (v 49) (v 50) (v 51) (v 76) (v 80) (v 81) (v 82) (v 79) (v 44 3) (v 44 4) (v 44 5) (v 44 6) (v 44 7) rfl rfl
    exact zT.mk hK (zM_lostBy_f (v := zvR_now (zb v 0 (upd (v 0) 10 0)) D Mn Gn n) a (by have := ht.1.2.2.1; omega) hg D ht.2.1.2.1 ht.1.1 Gn ht.2.1.2.2.2.2.2.1 ht.1.2.2.1 (zy_ev ht) (zy_lie ht hs) n (by rw [hn]; rfl) (by omega)) (hb.2.2.1 a ha) (by exact zJ.of 0 (by decide) h.1 rfl rfl)
theorem zT_lastsIn (h : zJ v w) (x y : Int32) : zT Ls xs v w t 277 262 [.int x, .int y] := by
  obtain ⟨_, _, _, _, h46, _, D, Mn, Gn, Un, ht, hs, _, hz⟩ := h.1
  rcases zt_isX h.st (show Mn ≤ 8 by have := ht.1.2.1; omega) x with ⟨hx, hg⟩ | ⟨hst, a, ha, rfl, hg⟩
  · rw [← ht.2.1.2.2.1] at hx
    rw [← h.lv, ← ht.2.1.2.2.2.1] at hg
    exact zT.mk (zK_lastsIn_t x hx y) (zM_lastsIn_t x y hg) rfl (by exact zJ.of 1 (by decide) h.1 rfl rfl)
  · rw [← h.lv, ← ht.2.1.2.2.2.1] at hg
    rcases zt_ah y with ⟨ho, hw⟩ | ⟨n, hn, rfl⟩
    · exact zT.mk (zK_lastsIn_o hst Mn ht.2.1.2.2.1 ht.1.2.1 a ha y ho) (zM_lastsIn_o (nI a) y hg hw) rfl (by exact zJ.of 2 (by decide) h.1 rfl rfl)
    · have hb := zy_both ht hs h46 hn (v 45) (v 47) (v 48) (v 49) (v 50) (v 51) (v 76) (v 80) (v 81) (v 82) (v 79) (v 44 3) (v 44 4) (v 44 5) (v 44 6) (v 44 7) rfl rfl
      exact zT.mk (zK_lastsIn_f hst D ht.2.1.1 ht.1.1 Mn ht.2.1.2.2.1 ht.1.2.1 Gn ht.2.1.2.2.2.2.1 ht.1.2.2.1 (zy_li5 ht.1.2.1 hs) ht.2.2.2.2.1 n hn a ha) (zM_lastsIn_f (v := zvR_now (zb v 0 (upd (v 0) 10 0)) D Mn Gn n) a (by have := ht.1.2.1; omega) hg n hn D ht.2.1.2.1 ht.1.1 Gn ht.2.1.2.2.2.2.2.1 ht.1.2.2.1 (zy_ev ht) (zy_lie ht hs)) (hb.2.2.2.1 a ha).1 (by exact zJ.of 0 (by decide) h.1 rfl rfl)
end ZTA
