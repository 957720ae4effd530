/-! ties: lostIn, wornIn -/
theorem zfr_find {σ ρ : Type} {G : Nat → σ → σ ⊕ ρ} {S : Nat → σ} {p : Nat → Bool} {f : Nat → ρ} {N : Nat} (h : ∀ j, j < N → G j (S j) = if p j = true then .inr (f j) else .inl (S (j + 1))) : ∀ (n i : Nat), i + n ≤ N →
    (zfr G n i (S i) = .inl (S (i + n)) ∧ ∀ j, i ≤ j → j < i + n → p j = false) ∨ ∃ k, i ≤ k ∧ k < i + n ∧ zfr G n i (S i) = .inr (f k) ∧ p k = true ∧ ∀ j, i ≤ j → j < k → p j = false
  | 0, i, _ => Or.inl ⟨rfl, fun j h1 h2 => absurd h2 (by omega)⟩
  | n + 1, i, hN => by
    unfold zfr
    rw [h i (by omega)]
    by_cases hp : p i = true
    · rw [if_pos hp]
      exact Or.inr ⟨i, Nat.le_refl _, by omega, rfl, hp, fun j h1 h2 => absurd h2 (by omega)⟩
    · rw [if_neg hp]
      have hp0 : p i = false := Bool.eq_false_iff.mpr hp
      rcases zfr_find h n (i + 1) (by omega) with ⟨h1, h2⟩ | ⟨k, h1, h2, h3, h4, h5⟩
      · refine Or.inl ⟨?_, ?_⟩
        · rw [show i + (n + 1) = i + 1 + n by omega]
          exact h1
        · intro j h3 h4
          by_cases e : j = i
          · rw [e]; exact hp0
          · exact h2 j (by omega) (by omega)
      · refine Or.inr ⟨k, by omega, by omega, h3, h4, ?_⟩
        intro j h6 h7
        by_cases e : j = i
        · rw [e]; exact hp0
        · exact h5 j (by omega) h7
section ZW
variable {sk : Nat → Int32} {yg fe od ev : Int32}
theorem zw_y_la (s i fe ou la lt wo ls kp : Int32) : ((zg_y s i fe ou (true, la, lt, wo, ls, kp)).1 = true ∧ (zg_y s i fe ou (true, la, lt, wo, ls, kp)).2.1 = la) ∨ ((zg_y s i fe ou (true, la, lt, wo, ls, kp)).1 = false ∧ (zg_y s i fe ou (true, la, lt, wo, ls, kp)).2.1 = i) := by
  unfold zg_y
  have key := zf_ind (G := zg_s s i fe ou) (P := fun _ c => (c.1 = true ∧ c.2.1 = la) ∨ (c.1 = false ∧ c.2.1 = i)) 8 0 (true, la, lt, wo, ls, kp) (Or.inl ⟨rfl, rfl⟩) ?_
  · exact key
  · intro j c _ _ hp
    obtain ⟨al, la', lt', wo', ls', kp'⟩ := c
    cases al with
    | false => rw [zg_s_dead]; exact hp
    | true =>
      unfold zg_s
      split
      · unfold zg_d
        simp only
        split
        · exact hp
        · split
          · exact Or.inr ⟨rfl, rfl⟩
          · exact hp
      · exact hp
theorem zw_la (l0 : Int32) : ∀ n, ((zf (zg_n sk yg fe od ev) n 1 (zq_0 l0)).1 = true ∧ (zf (zg_n sk yg fe od ev) n 1 (zq_0 l0)).2.1 = -2 ∧ ∀ j, j ≤ n → (zf (zg_n sk yg fe od ev) j 1 (zq_0 l0)).1 = true) ∨
    ∃ k, k ≤ n ∧ (zf (zg_n sk yg fe od ev) n 1 (zq_0 l0)).2.1 = nI k ∧ (zf (zg_n sk yg fe od ev) n 1 (zq_0 l0)).1 = false ∧ (zf (zg_n sk yg fe od ev) k 1 (zq_0 l0)).1 = false ∧ ∀ j, j < k → (zf (zg_n sk yg fe od ev) j 1 (zq_0 l0)).1 = true
  | 0 => Or.inl ⟨rfl, rfl, fun j hj => by rw [Nat.le_zero.mp hj]; rfl⟩
  | n + 1 => by
    rcases zw_la l0 n with ⟨h1, h2, h3⟩ | ⟨k, h1, h2, h3, h4, h5⟩
    · have e : zf (zg_n sk yg fe od ev) (n + 1) 1 (zq_0 l0) = zg_y (sk (1 + n)) (nI (1 + n)) fe (if ((yg + (nI (1 + n))) - (yg + (nI (1 + n))) / 2 * 2) = 0 then ev else od) (zf (zg_n sk yg fe od ev) n 1 (zq_0 l0)) := zf_last _ _ _ _
      rw [e]
      cases hc : zf (zg_n sk yg fe od ev) n 1 (zq_0 l0) with
      | mk al q =>
        obtain ⟨la, lt, wo, ls, kp⟩ := q
        rw [hc] at h1 h2
        have h1 : al = true := h1
        have h2 : la = -2 := h2
        subst h1
        rcases zw_y_la (sk (1 + n)) (nI (1 + n)) fe (if ((yg + (nI (1 + n))) - (yg + (nI (1 + n))) / 2 * 2) = 0 then ev else od) la lt wo ls kp with ⟨h6, h7⟩ | ⟨h6, h7⟩
        · refine Or.inl ⟨h6, h7.trans h2, ?_⟩
          intro j hj
          by_cases ej : j = n + 1
          · rw [ej, e, hc]
            exact h6
          · exact h3 j (by omega)
        · refine Or.inr ⟨n + 1, Nat.le_refl _, ?_, h6, ?_, fun j hj => h3 j (by omega)⟩
          · rw [h7, Nat.add_comm]
          · rw [e, hc]
            exact h6
    · have e : zf (zg_n sk yg fe od ev) (n + 1) 1 (zq_0 l0) = zf (zg_n sk yg fe od ev) n 1 (zq_0 l0) := by
        rw [zf_last]
        cases hc : zf (zg_n sk yg fe od ev) n 1 (zq_0 l0) with
        | mk al q =>
          rw [hc] at h3
          have h3 : al = false := h3
          subst h3
          exact zg_f_dead _ _ _ _ q 8 0
      exact Or.inr ⟨k, by omega, by rw [e]; exact h2, by rw [e]; exact h3, h4, h5⟩
theorem zw_y_wo (s i fe ou : Int32) (c : zg_C) {L : Nat} (hL : L ≤ 30) (hc : c.2.2.2.2.1 = nI L) : (L = 0 ∧ (zg_y s i fe ou c).2.2.2.2.1 = 0 ∧ (zg_y s i fe ou c).2.2.2.1 = c.2.2.2.1) ∨ (0 < L ∧ ((∃ K, 0 < K ∧ K ≤ 30 ∧ (zg_y s i fe ou c).2.2.2.2.1 = nI K ∧ (zg_y s i fe ou c).2.2.2.1 = c.2.2.2.1) ∨ ((zg_y s i fe ou c).2.2.2.2.1 = 0 ∧ (zg_y s i fe ou c).2.2.2.1 = i))) := by
  unfold zg_y
  have key := zf_ind (G := zg_s s i fe ou) (P := fun _ x => (L = 0 ∧ x.2.2.2.2.1 = 0 ∧ x.2.2.2.1 = c.2.2.2.1) ∨ (0 < L ∧ ((∃ K, 0 < K ∧ K ≤ 30 ∧ x.2.2.2.2.1 = nI K ∧ x.2.2.2.1 = c.2.2.2.1) ∨ (x.2.2.2.2.1 = 0 ∧ x.2.2.2.1 = i)))) 8 0 c ?_ ?_
  · exact key
  · cases L with
    | zero => exact Or.inl ⟨rfl, hc, rfl⟩
    | succ m => exact Or.inr ⟨by omega, Or.inl ⟨m + 1, by omega, hL, hc, rfl⟩⟩
  · intro j x _ _ hp
    obtain ⟨al, la, lt, wo, ls, kp⟩ := x
    cases al with
    | false => rw [zg_s_dead]; exact hp
    | true =>
      unfold zg_s
      split
      · unfold zg_d
        simp only
        split
        · rename_i hk
          rcases hp with ⟨h1, h2, h3⟩ | ⟨h1, ⟨K, k1, k2, k3, k4⟩ | ⟨k1, k2⟩⟩
          · have h2 : ls = 0 := h2
            rw [h2] at hk
            exact absurd (by decide) hk.1
          · have k3 : ls = nI K := k3
            have e : ls - 1 = nI (K - 1) := by rw [k3]; exact zk_dec1 (by omega)
            refine Or.inr ⟨h1, ?_⟩
            by_cases hK : K = 1
            · refine Or.inr ⟨?_, ?_⟩
              · show ls - 1 = 0
                rw [e, hK]; rfl
              · show (if ls - 1 = 0 then i else wo) = i
                rw [if_pos (by rw [e, hK]; rfl)]
            · refine Or.inl ⟨K - 1, by omega, by omega, e, ?_⟩
              show (if ls - 1 = 0 then i else wo) = _
              rw [if_neg (by rw [e]; exact nI_ne0 (by omega) (by omega))]
              exact k4
          · have k1 : ls = 0 := k1
            rw [k1] at hk
            exact absurd (by decide) hk.1
        · split
          · exact hp
          · exact hp
      · exact hp
theorem zw_wo {l0 : Int32} {L0 : Nat} (hL0 : L0 ≤ 30) (hl0 : l0 = nI L0) : ∀ n, (∃ L, L ≤ 30 ∧ (zf (zg_n sk yg fe od ev) n 1 (zq_0 l0)).2.2.2.2.1 = nI L ∧ (0 < L → (zf (zg_n sk yg fe od ev) n 1 (zq_0 l0)).2.2.2.1 = -2 ∧ ∀ j, j ≤ n → ¬ (zf (zg_n sk yg fe od ev) j 1 (zq_0 l0)).2.2.2.2.1 = 0) ∧
    (L = 0 → ∃ k, k ≤ n ∧ (zf (zg_n sk yg fe od ev) n 1 (zq_0 l0)).2.2.2.1 = nI k ∧ (zf (zg_n sk yg fe od ev) k 1 (zq_0 l0)).2.2.2.2.1 = 0 ∧ ∀ j, j < k → ¬ (zf (zg_n sk yg fe od ev) j 1 (zq_0 l0)).2.2.2.2.1 = 0))
  | 0 => by
    refine ⟨L0, hL0, hl0, fun h => ⟨?_, fun j hj => ?_⟩, fun h => ⟨0, Nat.le_refl _, ?_, ?_, fun j hj => absurd hj (Nat.not_lt_zero _)⟩⟩
    · show (if l0 ≤ 0 then 0 else -2) = -2
      rw [if_neg (by rw [hl0]; exact nI_nle h (by omega))]
    · rw [Nat.le_zero.mp hj]
      show ¬ l0 = 0
      rw [hl0]; exact nI_ne0 h (by omega)
    · show (if l0 ≤ 0 then 0 else -2) = nI 0
      rw [if_pos (by rw [hl0, h]; decide)]; rfl
    · show l0 = 0
      rw [hl0, h]; rfl
  | n + 1 => by
    obtain ⟨L, hL, hc, h1, h2⟩ := zw_wo hL0 hl0 n
    have e : zf (zg_n sk yg fe od ev) (n + 1) 1 (zq_0 l0) = zg_y (sk (1 + n)) (nI (1 + n)) fe (if ((yg + (nI (1 + n))) - (yg + (nI (1 + n))) / 2 * 2) = 0 then ev else od) (zf (zg_n sk yg fe od ev) n 1 (zq_0 l0)) := zf_last _ _ _ _
    rcases zw_y_wo (sk (1 + n)) (nI (1 + n)) fe (if ((yg + (nI (1 + n))) - (yg + (nI (1 + n))) / 2 * 2) = 0 then ev else od) (zf (zg_n sk yg fe od ev) n 1 (zq_0 l0)) hL hc with ⟨k1, k2, k3⟩ | ⟨k1, ⟨K, k2, k3, k4, k5⟩ | ⟨k2, k3⟩⟩
    · obtain ⟨k, m1, m2, m3, m4⟩ := h2 k1
      refine ⟨0, by omega, by rw [e]; exact k2, fun h => absurd h (Nat.lt_irrefl _), fun _ => ⟨k, by omega, by rw [e, k3]; exact m2, m3, m4⟩⟩
    · refine ⟨K, k3, by rw [e]; exact k4, fun _ => ⟨by rw [e, k5]; exact (h1 k1).1, ?_⟩, fun h => absurd h (by omega)⟩
      intro j hj
      by_cases ej : j = n + 1
      · rw [ej, e, k4]; exact nI_ne0 k2 (by omega)
      · exact (h1 k1).2 j (by omega)
    · refine ⟨0, by omega, by rw [e]; exact k2, fun h => absurd h (Nat.lt_irrefl _), fun _ => ⟨n + 1, Nat.le_refl _, by rw [e, k3, Nat.add_comm], by rw [e]; exact k2, fun j hj => (h1 k1).2 j (by omega)⟩⟩
end ZW
section ZY3
variable {D Mn Gn Un : Nat} {r20 r21 r22 r23 r24 r25 r26 r27 r28 r29 r30 r31 r71 r73 : Nat → Int32} {ys lo : Int32} {li th la st : Nat → Int32}
theorem zy_lostIn (ht : zI_t D Mn Gn Un r20 r21 r22 r23 r24 r25 r26 r27 r28 r29 r30 r31 r71 r73) (hs : zI_s D Mn Gn ys lo li th la st) {sl : Nat → Int32} (h46 : ∀ e, e < 5 → sl e = 0) {n : Nat} (hn : n = 60) (r45 j76 j80 j81 j82 j79 : Nat → Int32) {a : Nat} (ha : a < Gn) :
    (zr_mlostIn a D Gn r71 st j76 j80 j81 j82 j79).1 = (zq_c (zf (zl_aimG D r21 r22 ys) n 1 r45) ys n r27 th la r23 sl li lo a).2.1 := by
  have hM := ht.1.2.1
  have hG := ht.1.2.2.1
  have hs2 : zI_s D Mn Gn ys lo li th la (zr_mbegin st j76 j80 j81 j82 j79).1 := zI_s_of hM hG hs (fun i hi => zr_mbegin_row _ _ _ _ _ _ hi)
  obtain ⟨bg, hbg⟩ : ∃ z, z = zr_mbegin st j76 j80 j81 j82 j79 := ⟨_, rfl⟩
  have hsl : ∀ e, e < 5 → bg.2.2.2.2.2 e = 0 := fun e he => by rw [hbg]; exact zr_mbegin_s _ _ _ _ _ _ he
  unfold zr_mlostIn
  rw [← hbg]
  rw [← hbg] at hs2
  have hst : ∀ j, j ≤ n → bt ((zf (zl_mgoG D Gn r71 bg.2.2.2.2.2) j 0 (bg.1, bg.2.1, bg.2.2.1, bg.2.2.2.1, bg.2.2.2.2.1)).1 14) a = !(zq_c (zf (zl_aimG D r21 r22 ys) n 1 r45) ys j r27 th la r23 sl li lo a).1 := by
    intro j hj
    obtain ⟨c, hc, hR, _⟩ := zy_main ht hs2.w (slp := bg.2.2.2.2.2) (sl := sl) (fun e he => by rw [hsl e (by omega), h46 e (by omega)]) False bg.2.1 bg.2.2.1 bg.2.2.2.1 bg.2.2.2.2.1 (fun f => f.elim) (n := j) (by omega) (sk := zf (zl_aimG D r21 r22 ys) n 1 r45) (fun i h1 h2 => zl_aim_at D r21 r22 ys n 1 r45 i h1 (by omega))
    have h2 := hR.2.1 a (by omega)
    rw [if_pos ha, hc a ha] at h2
    exact h2
  have hf := zfr_find (G := zl_mlostInG D Gn r71 bg.2.2.2.2.2 a) (S := fun j => zf (zl_mgoG D Gn r71 bg.2.2.2.2.2) j 0 (bg.1, bg.2.1, bg.2.2.1, bg.2.2.2.1, bg.2.2.2.2.1)) (p := fun j => !(zq_c (zf (zl_aimG D r21 r22 ys) n 1 r45) ys j r27 th la r23 sl li lo a).1) (f := fun j => (nI j, zf (zl_mgoG D Gn r71 bg.2.2.2.2.2) j 0 (bg.1, bg.2.1, bg.2.2.1, bg.2.2.2.1, bg.2.2.2.2.1))) (N := n + 1) ?_ (n + 1) 0 (by omega)
  · rw [show (61 : Nat) = n + 1 by omega]
    unfold zq_c at hf ⊢
    by_cases hl : bt lo a = true
    · rw [if_pos hl]
      rcases hf with ⟨_, h2⟩ | ⟨k, h1, h2, h3, h4, h5⟩
      · have h6 := h2 0 (Nat.le_refl _) (by omega)
        simp only [if_pos hl] at h6
        cases h6
      · have hk : k = 0 := by
          cases k with
          | zero => rfl
          | succ m =>
            have h6 := h5 0 (Nat.le_refl _) (by omega)
            simp only [if_pos hl] at h6
            cases h6
        subst hk
        have h3 : zfr (zl_mlostInG D Gn r71 bg.2.2.2.2.2 a) (n + 1) 0 (bg.1, bg.2.1, bg.2.2.1, bg.2.2.2.1, bg.2.2.2.2.1) = _ := h3
        rw [h3]
        rfl
    · rw [if_neg hl]
      simp only [if_neg hl] at hf
      rcases zw_la (sk := zf (zl_aimG D r21 r22 ys) n 1 r45) (yg := ys) (fe := r27 a) (od := zq_P r23 th sl li a 1) (ev := zq_P r23 th sl li a 2) (zq_l la li a) n with ⟨w1, w2, w3⟩ | ⟨k, w1, w2, w3, w4, w5⟩
      · rw [w2]
        rcases hf with ⟨h1, _⟩ | ⟨k, h1, h2, h3, h4, h5⟩
        · have h1 : zfr (zl_mlostInG D Gn r71 bg.2.2.2.2.2 a) (n + 1) 0 (bg.1, bg.2.1, bg.2.2.1, bg.2.2.2.1, bg.2.2.2.2.1) = _ := h1
          rw [h1]
        · rw [w3 k (by omega)] at h4
          cases h4
      · rw [w2]
        rcases hf with ⟨_, h2⟩ | ⟨k2, h1, h2, h3, h4, h5⟩
        · have h6 := h2 k (Nat.zero_le _) (by omega)
          rw [w4] at h6
          cases h6
        · have hk : k2 = k := by
            rcases Nat.lt_trichotomy k2 k with hlt | heq | hgt
            · rw [w5 k2 hlt] at h4; cases h4
            · exact heq
            · have h6 := h5 k (Nat.zero_le _) hgt
              rw [w4] at h6
              cases h6
          subst hk
          have h3 : zfr (zl_mlostInG D Gn r71 bg.2.2.2.2.2 a) (n + 1) 0 (bg.1, bg.2.1, bg.2.2.1, bg.2.2.2.1, bg.2.2.2.2.1) = _ := h3
          rw [h3]
  · intro j hj
    have hb := hst j (by omega)
    have e : zf (zl_mgoG D Gn r71 bg.2.2.2.2.2) (j + 1) 0 (bg.1, bg.2.1, bg.2.2.1, bg.2.2.2.1, bg.2.2.2.2.1) = zl_mgoG D Gn r71 bg.2.2.2.2.2 j (zf (zl_mgoG D Gn r71 bg.2.2.2.2.2) j 0 (bg.1, bg.2.1, bg.2.2.1, bg.2.2.2.1, bg.2.2.2.2.1)) := by
      rw [zf_last, Nat.zero_add]
    rw [e, ← hb]
    cases hq : zf (zl_mgoG D Gn r71 bg.2.2.2.2.2) j 0 (bg.1, bg.2.1, bg.2.2.1, bg.2.2.2.1, bg.2.2.2.2.1) with
    | mk row q =>
      obtain ⟨ou, lt, lw, oo⟩ := q
      unfold zl_mlostInG zl_mgoG
      simp only
      by_cases hr : bt (row 14) a = true
      · rw [if_neg (fun z => by rw [zt_hb0 _ (by omega), hr] at z; cases z), if_pos hr]
      · rw [if_pos ((zt_hb0 _ (by omega)).mpr (Bool.eq_false_iff.mpr hr)), if_neg hr]
theorem zy_wornIn (ht : zI_t D Mn Gn Un r20 r21 r22 r23 r24 r25 r26 r27 r28 r29 r30 r31 r71 r73) (hs : zI_s D Mn Gn ys lo li th la st) {sl : Nat → Int32} (h46 : ∀ e, e < 5 → sl e = 0) {n : Nat} (hn : n = 60) (r45 j76 j80 j81 j82 j79 : Nat → Int32) {z : zq_S} (hQ : zq_R Mn Gn r26 la li lo (zq_c (zf (zl_aimG D r21 r22 ys) n 1 r45) ys n r27 th la r23 sl li lo) z) {e : Nat} (he : e < Mn) :
    (zr_mwornIn e D Gn r71 st j76 j80 j81 j82 j79).1 = z.2.2.2.2.1 e := by
  have hM := ht.1.2.1
  have hG := ht.1.2.2.1
  have hs2 : zI_s D Mn Gn ys lo li th la (zr_mbegin st j76 j80 j81 j82 j79).1 := zI_s_of hM hG hs (fun i hi => zr_mbegin_row _ _ _ _ _ _ hi)
  obtain ⟨bg, hbg⟩ : ∃ z, z = zr_mbegin st j76 j80 j81 j82 j79 := ⟨_, rfl⟩
  have hsl : ∀ e, e < 5 → bg.2.2.2.2.2 e = 0 := fun e he => by rw [hbg]; exact zr_mbegin_s _ _ _ _ _ _ he
  unfold zr_mwornIn
  rw [← hbg]
  rw [← hbg] at hs2
  have hmain := fun (j : Nat) (hj : j ≤ n) => zy_main ht hs2.w (slp := bg.2.2.2.2.2) (sl := sl) (fun e he => by rw [hsl e (by omega), h46 e (by omega)]) False bg.2.1 bg.2.2.1 bg.2.2.2.1 bg.2.2.2.2.1 (fun f => f.elim) (n := j) (by omega) (sk := zf (zl_aimG D r21 r22 ys) n 1 r45) (fun i h1 h2 => zl_aim_at D r21 r22 ys n 1 r45 i h1 (by omega))
  have hlo : lo = bg.1 14 := hs2.2.1
  have hin := hs2.2.2.1
  have hf := fun (p : Nat → Bool) (hp : ∀ j, j ≤ n → (p j = true ↔ (zf (zl_mgoG D Gn r71 bg.2.2.2.2.2) j 0 (bg.1, bg.2.1, bg.2.2.1, bg.2.2.2.1, bg.2.2.2.2.1)).1 e = 0)) => zfr_find (G := zl_mwornInG D Gn r71 bg.2.2.2.2.2 e) (S := fun j => zf (zl_mgoG D Gn r71 bg.2.2.2.2.2) j 0 (bg.1, bg.2.1, bg.2.2.1, bg.2.2.2.1, bg.2.2.2.2.1)) (p := p) (f := fun j => (nI j, zf (zl_mgoG D Gn r71 bg.2.2.2.2.2) j 0 (bg.1, bg.2.1, bg.2.2.1, bg.2.2.2.1, bg.2.2.2.2.1))) (N := n + 1) (fun j hj => by
    have hb := hp j (by omega)
    have e1 : zf (zl_mgoG D Gn r71 bg.2.2.2.2.2) (j + 1) 0 (bg.1, bg.2.1, bg.2.2.1, bg.2.2.2.1, bg.2.2.2.2.1) = zl_mgoG D Gn r71 bg.2.2.2.2.2 j (zf (zl_mgoG D Gn r71 bg.2.2.2.2.2) j 0 (bg.1, bg.2.1, bg.2.2.1, bg.2.2.2.1, bg.2.2.2.2.1)) := by
      rw [zf_last, Nat.zero_add]
    rw [e1]
    cases hq : zf (zl_mgoG D Gn r71 bg.2.2.2.2.2) j 0 (bg.1, bg.2.1, bg.2.2.1, bg.2.2.2.1, bg.2.2.2.2.1) with
    | mk row q =>
      obtain ⟨ou, lt, lw, oo⟩ := q
      rw [hq] at hb
      have hb : p j = true ↔ row e = 0 := hb
      unfold zl_mwornInG zl_mgoG
      simp only
      by_cases hr : row e = 0
      · rw [if_pos hr, if_pos (hb.mpr hr)]
      · rw [if_neg hr, if_neg (fun z => hr (hb.mp z))]) (n + 1) 0 (by omega)
  rw [show (61 : Nat) = n + 1 by omega]
  by_cases hex : ∃ a, a < Gn ∧ bt (bg.1 14) a = false ∧ bg.1 (10 + a) = nI (e + 1)
  · obtain ⟨a, ha, hl, hI⟩ := hex
    have hlia : li a = nI e := by
      rcases hin a ha with ⟨h, _⟩ | ⟨f, hf, h, h'⟩
      · rw [hI] at h; exact absurd h (nI_ne0 (by omega) (by omega))
      · have : f + 1 = e + 1 := (nI_eq (by omega) (by omega)).mp (h.symm.trans hI)
        rw [h', show f = e by omega]
    have hl2 : bt lo a = false := by rw [hlo]; exact hl
    have hz := (hQ.2.2.2.1 a e ha hl2 he hlia).1
    rw [hz]
    have hcj : ∀ j, zq_c (zf (zl_aimG D r21 r22 ys) n 1 r45) ys j r27 th la r23 sl li lo a = zf (zg_n (zf (zl_aimG D r21 r22 ys) n 1 r45) ys (r27 a) (zq_P r23 th sl li a 1) (zq_P r23 th sl li a 2)) j 1 (zq_0 (zq_l la li a)) := by
      intro j
      unfold zq_c
      rw [if_neg (by rw [hl2]; decide)]
    have hst : ∀ j, j ≤ n → (zf (zl_mgoG D Gn r71 bg.2.2.2.2.2) j 0 (bg.1, bg.2.1, bg.2.2.1, bg.2.2.2.1, bg.2.2.2.2.1)).1 e = (zf (zg_n (zf (zl_aimG D r21 r22 ys) n 1 r45) ys (r27 a) (zq_P r23 th sl li a 1) (zq_P r23 th sl li a 2)) j 1 (zq_0 (zq_l la li a))).2.2.2.2.1 := by
      intro j hj
      obtain ⟨c, hc, hR, _⟩ := hmain j hj
      have h2 := (hR.2.2.2.1 a e ha hl (by omega) hI).1
      rw [hc a ha, hcj j] at h2
      exact h2
    rw [hcj n]
    obtain ⟨L0, hL0, hl0⟩ : ∃ L0, L0 ≤ 30 ∧ zq_l la li a = nI L0 := by
      obtain ⟨L, h1, h2⟩ := (hs2.2.2.2.2.2 e he).2
      refine ⟨L, h1, ?_⟩
      unfold zq_l zq_e
      rw [if_neg (by rw [hlia]; exact nI_pos (by omega)), hlia, nI_clamp (by omega), (hs2.2.2.2.2.2 e he).1]
      exact h2
    obtain ⟨L, hL, _, w1, w2⟩ := zw_wo (sk := zf (zl_aimG D r21 r22 ys) n 1 r45) (yg := ys) (fe := r27 a) (od := zq_P r23 th sl li a 1) (ev := zq_P r23 th sl li a 2) hL0 hl0 n
    have hf2 := hf (fun j => decide ((zf (zg_n (zf (zl_aimG D r21 r22 ys) n 1 r45) ys (r27 a) (zq_P r23 th sl li a 1) (zq_P r23 th sl li a 2)) j 1 (zq_0 (zq_l la li a))).2.2.2.2.1 = 0)) (fun j hj => by rw [hst j hj]; exact decide_eq_true_iff)
    rcases Nat.eq_zero_or_pos L with h0 | h0
    · obtain ⟨k, m1, m2, m3, m4⟩ := w2 h0
      rw [m2]
      rcases hf2 with ⟨_, h2⟩ | ⟨k2, h1, h2, h3, h4, h5⟩
      · exact absurd m3 (of_decide_eq_false (h2 k (Nat.zero_le _) (by omega)))
      · have hk : k2 = k := by
          rcases Nat.lt_trichotomy k2 k with hlt | heq | hgt
          · exact absurd (of_decide_eq_true h4) (m4 k2 hlt)
          · exact heq
          · exact absurd m3 (of_decide_eq_false (h5 k (Nat.zero_le _) hgt))
        subst hk
        have h3 : zfr (zl_mwornInG D Gn r71 bg.2.2.2.2.2 e) (n + 1) 0 (bg.1, bg.2.1, bg.2.2.1, bg.2.2.2.1, bg.2.2.2.2.1) = _ := h3
        rw [h3]
    · obtain ⟨m1, m2⟩ := w1 h0
      rw [m1]
      rcases hf2 with ⟨h1, _⟩ | ⟨k2, h1, h2, h3, h4, h5⟩
      · have h1 : zfr (zl_mwornInG D Gn r71 bg.2.2.2.2.2 e) (n + 1) 0 (bg.1, bg.2.1, bg.2.2.1, bg.2.2.2.1, bg.2.2.2.2.1) = _ := h1
        rw [h1]
      · exact absurd (of_decide_eq_true h4) (m2 k2 (by omega))
  · have hz := (hQ.2.2.2.2 e he (fun a ha hl hI => hex ⟨a, ha, by rw [← hlo]; exact hl, by
      rcases hin a ha with ⟨_, h'⟩ | ⟨f, hf, h, h'⟩
      · rw [h'] at hI
        exact absurd hI ((by decide +kernel : ∀ k, k < 5 → ¬ (-2 : Int32) = nI k) e (by omega))
      · have : f = e := (nI_eq (by omega) (by omega)).mp (h'.symm.trans hI)
        rw [h, this]⟩)).1
    rw [hz]
    have hst : ∀ j, j ≤ n → (zf (zl_mgoG D Gn r71 bg.2.2.2.2.2) j 0 (bg.1, bg.2.1, bg.2.2.1, bg.2.2.2.1, bg.2.2.2.2.1)).1 e = bg.1 e := by
      intro j hj
      obtain ⟨c, hc, hR, _⟩ := hmain j hj
      exact (hR.2.2.2.2.1 e (by omega) (fun a ha hl hI => hex ⟨a, ha, hl, hI⟩)).1
    obtain ⟨L, h1, h2⟩ := (hs2.2.2.2.2.2 e he).2
    have hla : la e = bg.1 e := (hs2.2.2.2.2.2 e he).1
    have hf2 := hf (fun j => decide (bg.1 e = 0)) (fun j hj => by rw [hst j hj]; exact decide_eq_true_iff)
    rcases Nat.eq_zero_or_pos L with h0 | h0
    · have e0 : bg.1 e = 0 := by rw [h2, h0]; rfl
      rw [if_pos (by rw [hla, e0]; decide)]
      rcases hf2 with ⟨_, h3⟩ | ⟨k2, k1, k3, k4, k5, k6⟩
      · exact absurd e0 (of_decide_eq_false (h3 0 (Nat.le_refl _) (by omega)))
      · have hk : k2 = 0 := by
          rcases Nat.eq_zero_or_pos k2 with hk | hk
          · exact hk
          · exact absurd e0 (of_decide_eq_false (k6 0 (Nat.le_refl _) hk))
        subst hk
        have k4 : zfr (zl_mwornInG D Gn r71 bg.2.2.2.2.2 e) (n + 1) 0 (bg.1, bg.2.1, bg.2.2.1, bg.2.2.2.1, bg.2.2.2.2.1) = _ := k4
        rw [k4]
        rfl
    · have e0 : ¬ bg.1 e = 0 := by rw [h2]; exact nI_ne0 h0 (by omega)
      rw [if_neg (by rw [hla, h2]; exact nI_nle h0 (by omega))]
      rcases hf2 with ⟨h3, _⟩ | ⟨k2, k1, k3, k4, k5, k6⟩
      · have h3 : zfr (zl_mwornInG D Gn r71 bg.2.2.2.2.2 e) (n + 1) 0 (bg.1, bg.2.1, bg.2.2.1, bg.2.2.2.1, bg.2.2.2.2.1) = _ := h3
        rw [h3]
      · exact absurd (of_decide_eq_true k5) e0
end ZY3
theorem zr_mlostIn_t (a D Gn : Nat) (rr st row lt lw oo slp : Nat → Int32) : (zr_mlostIn a D Gn rr st row lt lw oo slp).2.2.2.2.2.2.2.2 = 0 := by
  unfold zr_mlostIn
  split <;> rfl
theorem zr_mwornIn_t (a D Gn : Nat) (rr st row lt lw oo slp : Nat → Int32) : (zr_mwornIn a D Gn rr st row lt lw oo slp).2.2.2.2.2.2.2.2 = 0 := by
  unfold zr_mwornIn
  split <;> rfl
section ZTB
variable {Ls : Nat} {xs : Nat → Int32} {v : Nat → Nat → Int32} {w : Nat → Nat → Int64} {t : zk_H}
theorem zT_lostIn (h : zJ v w) (x : Int32) : zT Ls xs v w t 280 226 [.int x] := by
  obtain ⟨_, _, _, _, h46, _, D, Mn, Gn, Un, ht, hs, _, hz⟩ := h.1
  rcases zt_isX h.st (show Gn ≤ 8 by have := ht.1.2.2.1; omega) x with ⟨hx, hg⟩ | ⟨hst, a, ha, rfl, hg⟩
  · rw [← ht.2.1.2.2.2.2.1] at hx
    rw [← h.lv, ← ht.2.1.2.2.2.2.2.1] at hg
    exact zT.mk (zK_lostIn_t x hx) (zM_lostIn_t x hg) rfl (by exact zJ.of 1 (by decide) h.1 rfl rfl)
  · rw [← h.lv, ← ht.2.1.2.2.2.2.2.1] at hg
    have hK := zK_lostIn_f (w := w) (t := t) (Ls := Ls) (xs := xs) hst D ht.2.1.1 ht.1.1 Mn ht.2.1.2.2.1 ht.1.2.1 Gn ht.2.1.2.2.2.2.1 ht.1.2.2.1 (zy_li5 ht.1.2.1 hs) ht.2.2.2.2.1 a ha
    obtain ⟨n, hn⟩ : ∃ n : Nat, n = 60 := ⟨60, rfl⟩
    rw [← hn] at hK
    have hQ := zq_goods (sk := zf (zl_aimG D (v 21) (v 22) (v 32 0)) n 1 (v 45)) (yg := v 32 0) (sp := n) (fe := v 27) (wr := v 26) (th := v 34) (la := v 35) (kd := v 23) (slp := v 46) (li := v 33) (lo := v 32 1) ht.1.2.2.1 (zy_li hs.w) ht.1.2.1 (zy_dis ht.1.2.1 hs.w) (v 47) (v 48) (v 49) (v 50) (v 51) (v 44 3) (v 44 4) (v 44 5) (v 44 6) (v 44 7)
    exact zT.mk hK (zM_lostIn_f (v := zvR_now (zb v 0 (upd (v 0) 10 0)) D Mn Gn n) a (by have := ht.1.2.2.1; omega) hg D ht.2.1.2.1 ht.1.1 Gn ht.2.1.2.2.2.2.2.1 ht.1.2.2.1 (zy_ev ht) (zy_lie ht hs)) ((zy_lostIn ht hs h46 hn (v 45) (v 76) (v 80) (v 81) (v 82) (v 79) ha).trans (hQ.2.2.1 a ha).1.symm) (by exact zJ.of 0 (by decide) h.1 rfl (zr_mlostIn_t _ _ _ _ _ _ _ _ _ _))
theorem zT_wornIn (h : zJ v w) (x : Int32) : zT Ls xs v w t 281 227 [.int x] := by
  obtain ⟨_, _, _, _, h46, _, D, Mn, Gn, Un, ht, hs, _, hz⟩ := h.1
  rcases zt_isX h.st (show Mn ≤ 8 by have := ht.1.2.1; omega) x with ⟨hx, hg⟩ | ⟨hst, a, ha, rfl, hg⟩
  · rw [← ht.2.1.2.2.1] at hx
    rw [← h.lv, ← ht.2.1.2.2.2.1] at hg
    exact zT.mk (zK_wornIn_t x hx) (zM_wornIn_t x hg) rfl (by exact zJ.of 1 (by decide) h.1 rfl rfl)
  · rw [← h.lv, ← ht.2.1.2.2.2.1] at hg
    have hK := zK_wornIn_f (w := w) (t := t) (Ls := Ls) (xs := xs) hst D ht.2.1.1 ht.1.1 Mn ht.2.1.2.2.1 ht.1.2.1 Gn ht.2.1.2.2.2.2.1 ht.1.2.2.1 (zy_li5 ht.1.2.1 hs) ht.2.2.2.2.1 a ha
    obtain ⟨n, hn⟩ : ∃ n : Nat, n = 60 := ⟨60, rfl⟩
    rw [← hn] at hK
    have hQ := zq_goods (sk := zf (zl_aimG D (v 21) (v 22) (v 32 0)) n 1 (v 45)) (yg := v 32 0) (sp := n) (fe := v 27) (wr := v 26) (th := v 34) (la := v 35) (kd := v 23) (slp := v 46) (li := v 33) (lo := v 32 1) ht.1.2.2.1 (zy_li hs.w) ht.1.2.1 (zy_dis ht.1.2.1 hs.w) (v 47) (v 48) (v 49) (v 50) (v 51) (v 44 3) (v 44 4) (v 44 5) (v 44 6) (v 44 7)
    exact zT.mk hK (zM_wornIn_f (v := zvR_now (zb v 0 (upd (v 0) 10 0)) D Mn Gn n) a (by have := ht.1.2.1; omega) hg D ht.2.1.2.1 ht.1.1 Gn ht.2.1.2.2.2.2.2.1 ht.1.2.2.1 (zy_ev ht) (zy_lie ht hs)) (zy_wornIn ht hs h46 hn (v 45) (v 76) (v 80) (v 81) (v 82) (v 79) hQ ha) (by exact zJ.of 0 (by decide) h.1 rfl (zr_mwornIn_t _ _ _ _ _ _ _ _ _ _))
end ZTB
