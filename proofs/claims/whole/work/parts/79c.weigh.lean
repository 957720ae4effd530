/-! the class's weighing of what befell: zI_d behind a level -/
section ZYD
variable {D Mn Gn Un : Nat} {r20 r21 r22 r23 r24 r25 r26 r27 r28 r29 r30 r31 r71 r73 : Nat → Int32}
theorem zy_thBy (ht : zI_t D Mn Gn Un r20 r21 r22 r23 r24 r25 r26 r27 r28 r29 r30 r31 r71 r73) {s e : Nat} (he : e < Mn) : zr_thBy Un r25 r30 r31 (nI s) e = (zf (zl_mwbUG r71 (nI s)) Un 0 r73) (5 + e) := by
  have hM := ht.1.2.1
  unfold zr_thBy
  have key := zf_rel (G := zl_thByG r30 r31 (nI s) e) (H := zl_mwbUG r71 (nI s)) (P := fun _ x row => x = row (5 + e)) Un 0 (r25 e) r73 (ht.2.2.2.2.2.2.2.2.2.2.2.2.1 e he).1 ?_
  · exact key
  · intro j x row _ hj hp
    obtain ⟨q1, q2, ⟨m, hm, q3⟩, y, hy, q4⟩ := ht.2.2.2.2.2.2.2.1 j (by omega)
    have hU := ht.1.2.2.2
    have q1 : r30 j = nI m := q1.trans q3
    have q2 : r31 j = nI y := q2.trans q4
    unfold zl_thByG zl_mwbUG
    rw [hp, q1, q2, q3, q4, show (5 : Int32) + nI m = nI (5 + m) from nI_add 5 m, nI_clamp (show 5 + m < 2 ^ 31 by omega)]
    cases hb : bt (nI s) j with
    | false =>
      rw [if_pos ((zt_tob _ (by omega)).mpr hb), if_pos ((zt_hb0 _ (by omega)).mpr hb)]
    | true =>
      rw [if_neg (show ¬ ((nI s >>> ((nI j) &&& 31)) &&& 1) = 0 from fun z => by rw [zt_tob _ (by omega), hb] at z; cases z), if_neg (show ¬ zr_mhasBit (nI s) (nI j) = 0 from fun z => by rw [zt_hb0 _ (by omega), hb] at z; cases z)]
      by_cases hme : m = e
      · subst hme
        rw [if_pos rfl, pk_us]
      · rw [if_neg (fun z => hme ((nI_eq (by omega) (by omega)).mp z)), pk_un (by omega)]
theorem zy_mwbR (r : Nat → Int32) (ly : Nat → Int32) : ∀ n i, (∃ q, zfr (zl_mwbEG r ly) n i () = .inl q) ∨ ∃ j, j < i + n ∧ zfr (zl_mwbEG r ly) n i () = .inr (nI j)
  | 0, i => Or.inl ⟨(), rfl⟩
  | n + 1, i => by
    have e : zl_mwbEG r ly i () = .inl () ∨ zl_mwbEG r ly i () = .inr (nI i) := by
      unfold zl_mwbEG
      split
      · exact Or.inl rfl
      · split
        · exact Or.inl rfl
        · exact Or.inr rfl
    rw [zfr_succ]
    rcases e with e | e
    · rw [e]
      rcases zy_mwbR r ly n (i + 1) with h | ⟨j, h1, h2⟩
      · exact Or.inl h
      · exact Or.inr ⟨j, by omega, h2⟩
    · rw [e]
      exact Or.inr ⟨i, by omega, rfl⟩
theorem zy_wbR (ht : zI_t D Mn Gn Un r20 r21 r22 r23 r24 r25 r26 r27 r28 r29 r30 r31 r71 r73) (s : Nat) : zI_wb Un D Gn r71 r73 s = -2 ∨ ∃ j, j < Gn ∧ zI_wb Un D Gn r71 r73 s = nI j := by
  unfold zI_wb
  rw [zy_mwb ht (nI s) _ _ _ _ _ _ _ (N := 40) (by decide) (fun _ => 0)]
  rcases zy_mwbR r71 (fun g => zy_L (zq_c (zf (zl_aimG D r21 r22 0) 40 1 (fun _ => 0)) 0 40 r27 (fun m => (zf (zl_mwbUG r71 (nI s)) Un 0 r73) (5 + m)) r24 r23 (fun _ => 0) r28 0 g)) Gn 0 with ⟨q, h⟩ | ⟨j, h1, h2⟩
  · rw [h]
    exact Or.inl rfl
  · rw [h2]
    exact Or.inr ⟨j, by omega, rfl⟩
theorem zy_fmm (ht : zI_t D Mn Gn Un r20 r21 r22 r23 r24 r25 r26 r27 r28 r29 r30 r31 r71 r73) (s : Nat) {N40 : Nat} (hN : N40 = 40) (rX r63 : Nat → Int32) (w3 w4 w5 w6 w7 : Int32) : (zr_fmm Gn (zf (zl_aimG D r21 r22 0) N40 1 rX) 0 N40 r27 (va_cpy r24 r63 0 0 5) r23 r25 r30 r31 Un r28 r29 (nI s) w3 w4 w5 w6 w7).1 = zI_wb Un D Gn r71 r73 s := by
  have hM := ht.1.2.1
  have hG := ht.1.2.2.1
  rw [← zy_mwbJ ht s (fun _ => 0) 0 (fun _ => 0) (fun _ => 0) (fun _ => 0) (fun _ => 0) (fun _ => 0) hN, zy_mwb ht (nI s) _ _ _ _ _ _ _ (N := N40) (by omega) rX]
  unfold zr_fmm
  have key := zfr_rel (G := zl_fmmG (zf (zl_aimG D r21 r22 0) N40 1 rX) 0 N40 r27 (va_cpy r24 r63 0 0 5) r23 r25 r30 r31 Un r28 r29 (nI s)) (H := zl_mwbEG r71 (fun g => zy_L (zq_c (zf (zl_aimG D r21 r22 0) N40 1 rX) 0 N40 r27 (fun m => (zf (zl_mwbUG r71 (nI s)) Un 0 r73) (5 + m)) r24 r23 (fun _ => 0) r28 0 g))) (P := fun _ _ _ => True) (Q := fun r q => r.1 = q) Gn 0 (w3, w4, w5, w6, w7) () trivial ?_
  · rcases key with ⟨s1, t1, h1, h2, _⟩ | ⟨r, q, h1, h2, h3⟩
    · rw [h1, h2]
    · rw [h1, h2]
      exact h3
  · intro g x y _ hg _
    have hgG : g < Gn := by omega
    obtain ⟨w3, w4, w5, w6, w7⟩ := x
    obtain ⟨_, _, _, hbf, B, hB, hB2⟩ := ht.2.2.2.2.2.2.1 g hgG
    have hbf : r29 g = nI B := hbf.trans hB2
    rcases Nat.eq_zero_or_pos B with hB0 | hB0
    · refine Or.inl ⟨(w3, w4, w5, w6, w7), (), ?_, ?_, trivial⟩
      · unfold zl_fmmG
        simp only
        rw [if_pos (by rw [hbf, hB0]; decide)]
      · unfold zl_mwbEG
        rw [if_pos (by rw [hB2, hB0]; decide)]
    · have hn1 : ¬ r29 g ≤ 0 := by rw [hbf]; exact nI_nle hB0 (by omega)
      have hn2 : ¬ r71 (49 + g) ≤ 0 := by rw [hB2]; exact nI_nle hB0 (by omega)
      have hL : ∀ l0 od ev, (zf (zg_n (zf (zl_aimG D r21 r22 0) N40 1 rX) 0 (r27 g) od ev) N40 1 (zq_0 l0)).2.1 = nI B ↔ zy_L (zf (zg_n (zf (zl_aimG D r21 r22 0) N40 1 rX) 0 (r27 g) od ev) N40 1 (zq_0 l0)) = nI B := by
        intro l0 od ev
        unfold zy_L
        rcases zw_la (sk := (zf (zl_aimG D r21 r22 0) N40 1 rX)) (yg := 0) (fe := r27 g) (od := od) (ev := ev) l0 N40 with ⟨z1, z2, _⟩ | ⟨k, _, z2, z3, _⟩
        · rw [z1, z2, if_pos rfl]
          constructor
          · intro z
            exact absurd z ((by decide +kernel : ∀ k, k < 41 → ¬ (-2 : Int32) = nI k) B (by omega))
          · intro z
            exact absurd z.symm (nI_ne0 hB0 (by omega))
        · rw [z3, if_neg (by decide)]
      have hcq : ∀ l0 od ev, zq_l r24 r28 g = l0 → zq_P r23 (fun m => (zf (zl_mwbUG r71 (nI s)) Un 0 r73) (5 + m)) (fun _ => 0) r28 g 1 = od → zq_P r23 (fun m => (zf (zl_mwbUG r71 (nI s)) Un 0 r73) (5 + m)) (fun _ => 0) r28 g 2 = ev → ((zr_follow (zf (zl_aimG D r21 r22 0) N40 1 rX) 0 N40 (r27 g) l0 od ev).2.1 = r29 g ↔ zy_L (zq_c (zf (zl_aimG D r21 r22 0) N40 1 rX) 0 N40 r27 (fun m => (zf (zl_mwbUG r71 (nI s)) Un 0 r73) (5 + m)) r24 r23 (fun _ => 0) r28 0 g) = r71 (49 + g)) := by
        intro l0 od ev e1 e2 e3
        have hc : (zq_c (zf (zl_aimG D r21 r22 0) N40 1 rX) 0 N40 r27 (fun m => (zf (zl_mwbUG r71 (nI s)) Un 0 r73) (5 + m)) r24 r23 (fun _ => 0) r28 0 g) = zf (zg_n (zf (zl_aimG D r21 r22 0) N40 1 rX) 0 (r27 g) od ev) N40 1 (zq_0 l0) := by
          unfold zq_c
          rw [if_neg (by rw [b_0]; decide), e1, e2, e3]
        rw [zg_follow, hc, hbf, hB2]
        exact hL l0 od ev
      rcases ht.2.2.2.2.2.2.2.2.2.2.1 g hgG with ⟨_, hl⟩ | ⟨e, he, _, hl⟩
      · have hl0 : r28 g < 0 := by rw [hl]; decide
        have hk := hcq 0 0 0 (if_pos hl0) (if_pos hl0) (if_pos hl0)
        unfold zl_fmmG zl_mwbEG zr_lyB
        simp only
        rw [if_neg hn1, if_pos hl0, if_neg hn2]
        by_cases hf : (zr_follow (zf (zl_aimG D r21 r22 0) N40 1 rX) 0 N40 (r27 g) 0 0 0).2.1 = r29 g
        · rw [if_pos hf, if_pos (hk.mp hf)]
          exact Or.inl ⟨_, _, rfl, rfl, trivial⟩
        · rw [if_neg hf, if_neg (fun z => hf (hk.mpr z))]
          exact Or.inr ⟨_, _, rfl, rfl, rfl⟩
      · have hl0 : ¬ r28 g < 0 := by rw [hl]; exact nI_pos (by omega)
        have ee : (r28 g).toNatClampNeg = e := by rw [hl]; exact nI_clamp (by omega)
        have ela : (va_cpy r24 r63 0 0 5) e = r24 e := by rw [pk_cpy_in (Nat.zero_le _) (by omega)]; congr 1; omega
        have hk := hcq (r24 e) ((zr_heldOff (r23 e) ((zf (zl_mwbUG r71 (nI s)) Un 0 r73) (5 + e)) 1) &&& (0 ^^^ (-1))) ((zr_heldOff (r23 e) ((zf (zl_mwbUG r71 (nI s)) Un 0 r73) (5 + e)) 2) &&& (0 ^^^ (-1))) (by unfold zq_l zq_e; rw [if_neg hl0, ee]) (by unfold zq_P zq_e; rw [if_neg hl0, ee]) (by unfold zq_P zq_e; rw [if_neg hl0, ee])
        unfold zl_fmmG zl_mwbEG zr_lyI
        simp only
        rw [if_neg hn1, if_neg hl0, if_neg hn2, ee, ela, zy_thBy ht he]
        by_cases hf : (zr_follow (zf (zl_aimG D r21 r22 0) N40 1 rX) 0 N40 (r27 g) (r24 e) ((zr_heldOff (r23 e) ((zf (zl_mwbUG r71 (nI s)) Un 0 r73) (5 + e)) 1) &&& (0 ^^^ (-1))) ((zr_heldOff (r23 e) ((zf (zl_mwbUG r71 (nI s)) Un 0 r73) (5 + e)) 2) &&& (0 ^^^ (-1)))).2.1 = r29 g
        · rw [if_pos hf, if_pos (hk.mp hf)]
          exact Or.inl ⟨_, _, rfl, rfl, trivial⟩
        · rw [if_neg hf, if_neg (fun z => hf (hk.mpr z))]
          exact Or.inr ⟨_, _, rfl, rfl, rfl⟩
theorem zl_weigh_1 (Gn : Nat) (sk : Nat → Int32) (yg : Int32) (sp : Nat) (fe la kd th um ud : Nat → Int32) (U : Nat) (li bf : Nat → Int32) (j : Nat) (s : Int32 × Int32 × Int32 × Int32 × Int32 × Int32) :
    (zl_weighG Gn sk yg sp fe la kd th um ud U li bf j s).1 = if 0 ≤ (zr_fmm Gn sk yg sp fe la kd th um ud U li bf (nI j) s.2.1 s.2.2.1 s.2.2.2.1 s.2.2.2.2.1 s.2.2.2.2.2).1 then s.1 else s.1 ||| ((1 : Int32) <<< ((nI j) &&& 31)) := by
  obtain ⟨ft, w3, w4, w5, w6, w7⟩ := s
  unfold zl_weighG
  show (if _ then _ else _ : Int32 × _).1 = _
  split <;> rfl
theorem zy_weighB (ht : zI_t D Mn Gn Un r20 r21 r22 r23 r24 r25 r26 r27 r28 r29 r30 r31 r71 r73) {N40 : Nat} (hN : N40 = 40) (rX r63 : Nat → Int32) (y3 y4 y5 y6 y7 : Int32) : ∀ n, n ≤ 32 → ∀ d, d < 32 → bt (zf (zl_weighG Gn (zf (zl_aimG D r21 r22 0) N40 1 rX) 0 N40 r27 (va_cpy r24 r63 0 0 5) r23 r25 r30 r31 Un r28 r29) n 0 (0, y3, y4, y5, y6, y7)).1 d = decide (d < n ∧ zI_wb Un D Gn r71 r73 d = -2)
  | 0, _, d, _ => by
    rw [decide_eq_false (fun z => by omega)]
    exact b_0 d
  | n + 1, hn, d, hd => by
    have ih := zy_weighB ht hN rX r63 y3 y4 y5 y6 y7 n (by omega) d hd
    rw [zf_last, Nat.zero_add, zl_weigh_1, zy_fmm ht n hN rX r63]
    have hG := ht.1.2.2.1
    rcases zy_wbR ht n with h | ⟨j, hj, h⟩
    · rw [h, if_neg (by decide), zt_or1 _ (by omega) hd, ih, ← Bool.decide_or]
      apply decide_eq_decide.mpr
      constructor
      · rintro (⟨h1, h2⟩ | h1)
        · exact ⟨by omega, h2⟩
        · rw [h1]; exact ⟨by omega, h⟩
      · rintro ⟨h1, h2⟩
        by_cases hdn : d = n
        · exact Or.inr hdn
        · exact Or.inl ⟨by omega, h2⟩
    · rw [h, if_pos (Int32.not_lt.mp (nI_pos (show j < 2 ^ 31 by omega))), ih]
      apply decide_eq_decide.mpr
      constructor
      · rintro ⟨h1, h2⟩
        exact ⟨by omega, h2⟩
      · rintro ⟨h1, h2⟩
        by_cases hdn : d = n
        · rw [hdn, h] at h2
          exact absurd h2.symm ((by decide +kernel : ∀ k, k < 4 → ¬ (-2 : Int32) = nI k) j (by omega))
        · exact ⟨by omega, h2⟩
theorem zy_weigh (ht : zI_t D Mn Gn Un r20 r21 r22 r23 r24 r25 r26 r27 r28 r29 r30 r31 r71 r73) {N : Nat} (hN : 2 ^ Un = N) (r59 r61 r62 r63 : Nat → Int32) (w3 w4 w5 w6 w7 : Int32) {r57 : Nat → Int32} (h2 : r57 2 = (zr_weigh D Gn Un N r21 r22 r27 r23 r25 r24 r28 r29 r30 r31 r59 r61 r62 r63 w3 w4 w5 w6 w7).1) (h3 : r57 3 = (zr_weigh D Gn Un N r21 r22 r27 r23 r25 r24 r28 r29 r30 r31 r59 r61 r62 r63 w3 w4 w5 w6 w7).2.1) (h4 : r57 4 = (zr_weigh D Gn Un N r21 r22 r27 r23 r25 r24 r28 r29 r30 r31 r59 r61 r62 r63 w3 w4 w5 w6 w7).2.2.1) : zI_d Un D Gn r57 r71 r73 := by
  have hU := ht.1.2.2.2
  have hN16 : 2 ^ Un ≤ 16 := Nat.le_trans (Nat.pow_le_pow_right (by decide) hU) (by decide)
  unfold zr_weigh at h2 h3 h4
  simp only at h2 h3 h4
  refine ⟨h2, fun s hs => ?_, ?_⟩
  · rw [h3, zy_weighB ht rfl r59 r63 _ _ _ _ _ N (by omega) s hs, hN]
    exact decide_eq_true_iff
  · rw [h4]
    exact zy_fmm ht 0 rfl r59 r63 w3 w4 w5 w6 w7
end ZYD
