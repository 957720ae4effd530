/-! ties: undo, image, back, year -/
section ZTF
variable {Ls : Nat} {xs : Nat → Int32} {v : Nat → Nat → Int32} {w : Nat → Nat → Int64} {t : zk_H}
theorem zT_undo (h : zJ v w) : zT Ls xs v w t 197 130 [] := by
  obtain ⟨hst0, hfl, htp, hr7, h46, hw16, D, Mn, Gn, Un, ht, hs, hh, hz⟩ := h.1
  obtain ⟨k, p, i, ⟨hk16, hp16, hi3⟩, ⟨hk, hun, hp, hi, him⟩, hu, hima⟩ := hh
  rcases Nat.eq_zero_or_pos k with hk0 | hk0
  · exact zT.mk (zK_undo_0 (by rw [hk, hk0]; rfl)) (zM_undo_0 (v := zb v 0 (upd (v 0) 10 6)) (by show v 68 23 = 0; rw [hun, hk0]; rfl)) rfl (by exact zJ.of 6 (by decide) h.1 rfl rfl)
  · obtain ⟨m, rfl⟩ : ∃ m, k = m + 1 := ⟨k - 1, by omega⟩
    have hst : v 0 2 = 1 := by
      rcases hz with hz | hz
      · have h1 := hz.2.2.2.2.2.2.2.2.1
        rw [hun] at h1
        exact absurd h1 (nI_ne0 (by omega) (by omega))
      · exact hz.1
    obtain ⟨b, hb⟩ : ∃ b, b = ((p + 15) % 16) * 16 := ⟨_, rfl⟩
    have h0 := hu 0 (by omega)
    unfold zI_r at h0
    rw [show ((p + 15 - 0) % 16) * 16 = b by rw [hb]; rfl, show 16 * (m + 1 - 1 - 0) = 16 * m by omega] at h0
    have hns : zI_s D Mn Gn (v 41 b) (v 41 (b + 1)) (va_cpy (v 41) (v 33) (b + 2) 0 4) (va_cpy (v 41) (v 34) (b + 2 + 4) 0 5) (va_cpy (v 41) (v 35) (b + 2 + 4 + 5) 0 5) (zr_cpUs (v 77) (v 75) (16 * m)) := by
      refine zI_s_ext ht.1.2.1 ht.1.2.2.1 h0 rfl rfl ?_ ?_ ?_ ?_
      · intro g hg; rw [pk_cpy_in (Nat.zero_le _) (by omega), Nat.sub_zero]
      · intro g hg; rw [pk_cpy_in (Nat.zero_le _) (by omega), Nat.sub_zero]
      · intro g hg; rw [pk_cpy_in (Nat.zero_le _) (by omega), Nat.sub_zero]
      · intro x hx; exact zr_cpUs_at _ _ _ hx
    refine zT.mk (zK_undo_s p hp hp16 m hk (by omega) b hb) (zM_undo_s (v := zb (zb (zb (zb (zb (zb v 0 (upd (v 0) 10 0)) 32 (upd (upd (v 32) 0 (v 41 b)) 1 (v 41 (b + 1)))) 33 (va_cpy (v 41) (v 33) (b + 2) 0 4)) 34 (va_cpy (v 41) (v 34) (b + 2 + 4) 0 5)) 35 (va_cpy (v 41) (v 35) (b + 2 + 4 + 5) 0 5)) 40 (upd (upd (v 40) 1 (nI ((p + 15) % 16))) 2 (nI m))) m hun (by omega)) rfl ⟨⟨hst0, hfl, htp, hr7, h46, hw16, D, Mn, Gn, Un, ht, hns, ⟨m, (p + 15) % 16, i, ⟨by omega, by omega, hi3⟩, ⟨rfl, rfl, rfl, hi, him⟩, ?_, hima⟩, Or.inr (zy_st1 hz hst)⟩, rfl, fun z => absurd (show (0 : Int32) = 4 from z) (by decide)⟩
    intro j hj
    have h1 := hu (j + 1) (by omega)
    rw [show (p + 15 - (j + 1)) % 16 = ((p + 15) % 16 + 15 - j) % 16 by omega, show m + 1 - 1 - (j + 1) = m - 1 - j by omega] at h1
    exact h1
theorem zT_image (h : zJ v w) : zT Ls xs v w t 190 115 [] := by
  rcases h.st with hst | hst
  · exact zT.mk (zK_image_t hst) (zM_image_t (v := zb v 0 (upd (v 0) 10 1)) (h.lv.trans hst)) rfl (by exact zJ.of 1 (by decide) h.1 rfl rfl)
  · obtain ⟨hst0, hfl, htp, hr7, h46, hw16, D, Mn, Gn, Un, ht, hs, hh, hz⟩ := h.1
    obtain ⟨k, p, i, ⟨hk16, hp16, hi3⟩, ⟨hk, hun, hp, hi, him⟩, hu, hima⟩ := hh
    rcases (show i = 3 ∨ i < 3 by omega) with h3 | h3
    · exact zT.mk (zK_image_3 hst (by rw [hi, h3]; rfl)) (zM_image_3 (v := zb v 0 (upd (v 0) 10 3)) (h.lv.trans hst) (by show v 68 24 = 3; rw [him, h3]; rfl)) rfl (by exact zJ.of 3 (by decide) h.1 rfl rfl)
    · refine zT.mk (zK_image_f hst i hi h3) (zM_image_f (v := zb (zb (zb v 0 (upd (v 0) 10 0)) 40 (upd (v 40) 4 (nI (i + 1)))) 42 (zr_save (v 42) (i * 16) (v 32 0) (v 32 1) (v 33) (v 34) (v 35))) (h.lv.trans hst) i him h3) rfl ⟨⟨hst0, hfl, htp, hr7, h46, hw16, D, Mn, Gn, Un, ht, hs, ⟨k, p, i + 1, ⟨hk16, hp16, by omega⟩, ⟨hk, hun, hp, rfl, rfl⟩, hu, ?_⟩, Or.inr (zy_st1 hz hst)⟩, rfl, fun z => absurd (show (0 : Int32) = 4 from z) (by decide)⟩
      intro j hj
      unfold zI_r
      by_cases hji : j = i
      · subst hji
        refine zI_s_ext ht.1.2.1 ht.1.2.2.1 hs ?_ ?_ ?_ ?_ ?_ ?_
        · show zr_save (v 42) (j * 16) (v 32 0) (v 32 1) (v 33) (v 34) (v 35) (j * 16) = _
          rw [zr_save_at, if_pos rfl]
        · show zr_save (v 42) (j * 16) (v 32 0) (v 32 1) (v 33) (v 34) (v 35) (j * 16 + 1) = _
          rw [zr_save_at, if_neg (by omega), if_pos rfl]
        · intro g hg
          show zr_save (v 42) (j * 16) (v 32 0) (v 32 1) (v 33) (v 34) (v 35) (j * 16 + 2 + g) = _
          rw [zr_save_at, if_neg (by omega), if_neg (by omega), if_pos (by omega), show j * 16 + 2 + g - (j * 16 + 2) = g by omega]
        · intro g hg
          show zr_save (v 42) (j * 16) (v 32 0) (v 32 1) (v 33) (v 34) (v 35) (j * 16 + 6 + g) = _
          rw [zr_save_at, if_neg (by omega), if_neg (by omega), if_neg (by omega), if_pos (by omega), show j * 16 + 6 + g - (j * 16 + 6) = g by omega]
        · intro g hg
          show zr_save (v 42) (j * 16) (v 32 0) (v 32 1) (v 33) (v 34) (v 35) (j * 16 + 11 + g) = _
          rw [zr_save_at, if_neg (by omega), if_neg (by omega), if_neg (by omega), if_neg (by omega), if_pos (by omega), show j * 16 + 11 + g - (j * 16 + 11) = g by omega]
        · intro x hx
          show zr_cpSk (v 75) (v 78) (16 * j) (16 * j + x) = _
          rw [zr_cpSk_at, if_pos (by omega), Nat.add_sub_cancel_left]
      · have h1 := hima j (by omega)
        unfold zI_r at h1
        have hsv : ∀ x, x < 16 → zr_save (v 42) (i * 16) (v 32 0) (v 32 1) (v 33) (v 34) (v 35) (j * 16 + x) = v 42 (j * 16 + x) := by
          intro x hx
          rw [zr_save_at, if_neg (by omega), if_neg (by omega), if_neg (by omega), if_neg (by omega), if_neg (by omega)]
        refine zI_s_ext ht.1.2.1 ht.1.2.2.1 h1 (hsv 0 (by omega)) (hsv 1 (by omega)) ?_ ?_ ?_ ?_
        · intro g hg
          have := hsv (2 + g) (by omega)
          rw [← Nat.add_assoc] at this
          exact this
        · intro g hg
          have := hsv (6 + g) (by omega)
          rw [← Nat.add_assoc] at this
          exact this
        · intro g hg
          have := hsv (11 + g) (by omega)
          rw [← Nat.add_assoc] at this
          exact this
        · intro x hx
          show zr_cpSk (v 75) (v 78) (16 * i) (16 * j + x) = _
          rw [zr_cpSk_at, if_neg (by omega)]
theorem zy_mx {c x : Int32} {b : Int32} (h : zr_misX 1 c x = b) : (b = 0 → zr_mwithin x 0 (c - 1) = 0) ∧ (b = 1 → zr_mwithin x 0 (c - 1) = 1) := by
  unfold zr_misX at h
  rw [if_neg (by decide)] at h
  have h01 : zr_mwithin x 0 (c - 1) = 0 ∨ zr_mwithin x 0 (c - 1) = 1 := by
    unfold zr_mwithin
    repeat' split
    all_goals first | exact Or.inl rfl | exact Or.inr rfl
  rcases h01 with h0 | h0
  · rw [if_pos h0] at h
    exact ⟨fun _ => h0, fun z => by rw [← h] at z; exact absurd z (by decide)⟩
  · rw [if_neg (by rw [h0]; decide)] at h
    exact ⟨fun z => by rw [← h] at z; exact absurd z (by decide), fun _ => h0⟩
theorem zT_back (h : zJ v w) (x : Int32) : zT Ls xs v w t 189 109 [.int x] := by
  obtain ⟨hst0, hfl, htp, hr7, h46, hw16, D, Mn, Gn, Un, ht, hs, hh, hz⟩ := h.1
  obtain ⟨k, p, i, ⟨hk16, hp16, hi3⟩, ⟨hk, hun, hp, hi, him⟩, hu, hima⟩ := hh
  rcases zt_isX (lv := 1) (Or.inr rfl) (show i ≤ 8 by omega) x with ⟨hx, hg⟩ | ⟨_, j, hj, rfl, hg⟩
  · have hx2 : x < 0 ∨ v 40 4 ≤ x := by
      rcases hx with hx | hx
      · exact absurd hx (by decide)
      · rw [hi]; exact hx
    exact zT.mk (zK_back_t x hx2) (zM_back_t (v := zb v 0 (upd (v 0) 10 1)) x (by show zr_mwithin x 0 (v 68 24 - 1) = 0; rw [him]; exact (zy_mx hg).1 rfl)) rfl (by exact zJ.of 1 (by decide) h.1 rfl rfl)
  · have hst : v 0 2 = 1 := by
      rcases hz with hz | hz
      · have h1 := hz.2.2.2.2.2.2.2.2.2
        rw [him] at h1
        exact absurd h1 (nI_ne0 (by omega) (by omega))
      · exact hz.1
    have h0 := hima j hj
    unfold zI_r at h0
    have hns : zI_s D Mn Gn (v 42 (j * 16)) (v 42 (j * 16 + 1)) (va_cpy (v 42) (v 33) (j * 16 + 2) 0 4) (va_cpy (v 42) (v 34) (j * 16 + 2 + 4) 0 5) (va_cpy (v 42) (v 35) (j * 16 + 2 + 4 + 5) 0 5) (zr_cpKs (v 78) (v 75) (16 * j)) := by
      refine zI_s_ext ht.1.2.1 ht.1.2.2.1 h0 rfl rfl ?_ ?_ ?_ ?_
      · intro g hg; rw [pk_cpy_in (Nat.zero_le _) (by omega), Nat.sub_zero]
      · intro g hg; rw [pk_cpy_in (Nat.zero_le _) (by omega), Nat.sub_zero]
      · intro g hg; rw [pk_cpy_in (Nat.zero_le _) (by omega), Nat.sub_zero]
      · intro x hx; exact zr_cpKs_at _ _ _ hx
    refine zT.mk (zK_back_f i j hi hi3 hj) (zM_back_f (v := zb (zb (zb (zb (zb (zb v 0 (upd (v 0) 10 0)) 32 (upd (upd (v 32) 0 (v 42 (j * 16))) 1 (v 42 ((j * 16) + 1)))) 33 (va_cpy (v 42) (v 33) ((j * 16) + 2) 0 4)) 34 (va_cpy (v 42) (v 34) ((j * 16) + 2 + 4) 0 5)) 35 (va_cpy (v 42) (v 35) ((j * 16) + 2 + 4 + 5) 0 5)) 40 (upd (v 40) 2 0)) j (by omega) (by show zr_mwithin (nI j) 0 (v 68 24 - 1) = 1; rw [him]; exact (zy_mx hg).2 rfl)) rfl ⟨⟨hst0, hfl, htp, hr7, h46, hw16, D, Mn, Gn, Un, ht, hns, ⟨0, p, i, ⟨by omega, hp16, hi3⟩, ⟨rfl, rfl, hp, hi, him⟩, fun j hj => absurd hj (Nat.not_lt_zero _), hima⟩, Or.inr (zy_st1 hz hst)⟩, rfl, fun z => absurd (show (0 : Int32) = 4 from z) (by decide)⟩
theorem zl_year_at (ol la : Nat → Int32) : ∀ (n k : Nat) (x : Nat), zf (zl_yearG ol) n k la x = if k ≤ x ∧ x < k + n then ol x else la x := by
  intro n
  induction n generalizing la with
  | zero => intro k x; rw [if_neg (by omega)]; rfl
  | succ n ih =>
    intro k x
    rw [zf_succ, ih]
    have e : zl_yearG ol k la = upd la k (ol k) := rfl
    rw [e]
    by_cases h2 : k + 1 ≤ x ∧ x < k + 1 + n
    · rw [if_pos h2, if_pos (by omega)]
    · rw [if_neg h2]
      by_cases h : x = k
      · subst h
        rw [pk_us, if_pos (by omega)]
      · rw [pk_un h, if_neg (by omega)]
/-- a year goes by on both sides -/
theorem zy_yr {D Mn Gn Un : Nat} {r20 r21 r22 r23 r24 r25 r26 r27 r28 r29 r30 r31 r71 r73 : Nat → Int32} {ys lo : Int32} {li th la st : Nat → Int32} (ht : zI_t D Mn Gn Un r20 r21 r22 r23 r24 r25 r26 r27 r28 r29 r30 r31 r71 r73) (hs : zI_s D Mn Gn ys lo li th la st) {sl : Nat → Int32} (h46 : ∀ e, e < 5 → sl e = 0) (hy : ys < 999) (r45 r47 r48 r49 r50 r51 j79 lt lw oo : Nat → Int32) (ou w3 w4 w5 w6 w7 : Int32) {z : zq_S} {n : Nat} (hn : n = 1)
    (hz : z = zf (zl_rsGG (zf (zl_aimG D r21 r22 ys) n 1 r45) ys n r27 r26 th la r23 sl li lo) Gn 0 (0, lo, r47, r48, (zf (zl_rsMG la) Mn 0 (r49, r50, r51)).1, (zf (zl_rsMG la) Mn 0 (r49, r50, r51)).2.1, (zf (zl_rsMG la) Mn 0 (r49, r50, r51)).2.2, w3, w4, w5, w6, w7)) :
    (zr_myear D Gn r71 st (zr_mnoSlips j79) ou lt lw oo).1 14 = z.2.1 ∧ zI_s D Mn Gn (ys + 1) z.2.1 li th (zf (zl_yearG z.2.2.2.2.2.1) Mn 0 la) (zr_myear D Gn r71 st (zr_mnoSlips j79) ou lt lw oo).1 := by
  have hM := ht.1.2.1
  have hG := ht.1.2.2.1
  obtain ⟨c, hc, hR, Y, hY, hys, h15⟩ := zy_main ht hs.w (slp := zr_mnoSlips j79) (sl := sl) (fun e he => by rw [zr_mnoS_at _ (by omega), h46 e (by omega)]) False ou lt lw oo (fun f => f.elim) (n := n) (by omega) (sk := zf (zl_aimG D r21 r22 ys) n 1 r45) (fun j h1 h2 => zl_aim_at D r21 r22 ys n 1 r45 j h1 (by omega))
  have hQ := zq_goods (sk := zf (zl_aimG D r21 r22 ys) n 1 r45) (yg := ys) (sp := n) (fe := r27) (wr := r26) (th := th) (la := la) (kd := r23) (slp := sl) (li := li) (lo := lo) hG (zy_li hs.w) hM (zy_dis hM hs.w) r47 r48 r49 r50 r51 w3 w4 w5 w6 w7
  rw [← hz] at hQ
  subst hn
  have hR : zg_R False Mn Gn r71 st c (zr_myear D Gn r71 st (zr_mnoSlips j79) ou lt lw oo) := hR
  have h15 : (zr_myear D Gn r71 st (zr_mnoSlips j79) ou lt lw oo).1 15 = nI (Y + 1) := h15
  obtain ⟨q, hq⟩ : ∃ q, q = zr_myear D Gn r71 st (zr_mnoSlips j79) ou lt lw oo := ⟨_, rfl⟩
  rw [← hq] at hR h15 ⊢
  obtain ⟨h1, h2, h3, h4, h5, h6, _⟩ := hR
  obtain ⟨q1, q2, q3, q4, q5⟩ := hQ
  obtain ⟨hyy, hlo, hin, hdis, hth, hla⟩ := hs
  have h14 : q.1 14 = z.2.1 := by
    apply b_ext
    intro i hi
    rw [h2 i hi, q2 i hi]
    by_cases hiG : i < Gn
    · rw [if_pos hiG, if_pos hiG, hc i hiG]
    · rw [if_neg hiG, if_neg hiG, hlo]
  have hmak : ∀ e, e < Mn → q.1 e = z.2.2.2.2.2.1 e ∧ ∃ L, L ≤ 30 ∧ q.1 e = nI L := by
    intro e he
    by_cases hex : ∃ a, a < Gn ∧ bt (st 14) a = false ∧ st (10 + a) = nI (e + 1)
    · obtain ⟨a, ha, hl, hI⟩ := hex
      have h11 := h4 a e ha hl (by omega) hI
      have hlia : li a = nI e := by
        rcases hin a ha with ⟨h, _⟩ | ⟨f, hf, h, h'⟩
        · rw [hI] at h; exact absurd h (nI_ne0 (by omega) (by omega))
        · have : f + 1 = e + 1 := (nI_eq (by omega) (by omega)).mp (h.symm.trans hI)
          rw [h', show f = e by omega]
      have h12 := q4 a e ha (by rw [hlo]; exact hl) he hlia
      obtain ⟨L, hL, hL2⟩ := h6 a ha
      refine ⟨?_, L, hL, h11.1.trans hL2⟩
      rw [h11.1, h12.2.1, hc a ha]
    · have h11 := h5 e (by omega) (fun a ha hl hI => hex ⟨a, ha, hl, hI⟩)
      have h12 := q5 e he (fun a ha hl hI => hex ⟨a, ha, by rw [← hlo]; exact hl, by
        rcases hin a ha with ⟨_, h'⟩ | ⟨f, hf, h, h'⟩
        · rw [h'] at hI
          exact absurd hI ((by decide +kernel : ∀ k, k < 5 → ¬ (-2 : Int32) = nI k) e (by omega))
        · have : f = e := (nI_eq (by omega) (by omega)).mp (h'.symm.trans hI)
          rw [h, this]⟩)
      obtain ⟨hl1, L, hL, hL2⟩ := hla e he
      refine ⟨?_, L, hL, h11.1.trans hL2⟩
      rw [h11.1, h12.2.1, hl1]
  refine ⟨h14, ⟨Y + 1, ?_, ?_, h15⟩, h14.symm, ?_, ?_, ?_, ?_⟩
  · have : nI Y < nI 999 := by rw [← hys]; exact hy
    have := (nI_ltI (by omega) (by decide)).mp this
    omega
  · rw [hys]; exact nI_1 Y
  · intro g hg; rw [h1 (10 + g) (by omega) (by omega)]; exact hin g hg
  · intro a b ha hb; rw [h1 (10 + a) (by omega) (by omega), h1 (10 + b) (by omega) (by omega)]; exact hdis a b ha hb
  · intro m hm; rw [h1 (5 + m) (by omega) (by omega)]; exact hth m hm
  · intro m hm
    rw [zl_year_at, if_pos (by omega)]
    exact ⟨(hmak m hm).1.symm, (hmak m hm).2⟩
theorem zT_year (h : zJ v w) : zT Ls xs v w t 253 229 [] := by
  rcases h.st with hst | hst
  · exact zT.mk (zK_year_t hst) (zM_year_t (v := zb v 0 (upd (v 0) 10 1)) (h.lv.trans hst)) rfl (by exact zJ.of 1 (by decide) h.1 rfl rfl)
  · obtain ⟨hst0, hfl, htp, hr7, h46, hw16, D, Mn, Gn, Un, ht, hs, hh, hz⟩ := h.1
    obtain ⟨Y, hY, hys, hr15⟩ := hs.1
    by_cases hy9 : Y = 999
    · exact zT.mk (zK_year_3 hst (by rw [hys, hy9]; decide)) (zM_year_3 (v := zb v 0 (upd (v 0) 10 3)) (h.lv.trans hst) (by show v 75 15 = 999; rw [hr15, hy9]; rfl)) rfl (by exact zJ.of 3 (by decide) h.1 rfl rfl)
    · have hy : v 32 0 < 999 := by rw [hys]; exact nI_lt (b := 999) (by omega) (by decide)
      have hy2 : ¬ v 75 15 = 999 := by rw [hr15]; exact fun z => hy9 ((nI_eq (show Y < 2 ^ 31 by omega) (show 999 < 2 ^ 31 by decide)).mp z)
      obtain ⟨k, p, i, ⟨hk16, hp16, hi3⟩, ⟨hk, hun, hp, hi, him⟩, hu, hima⟩ := hh
      have hyr := zy_yr ht hs h46 hy (v 45) (v 47) (v 48) (v 49) (v 50) (v 51) (v 79) (v 80) (v 81) (v 82) (v 68 26) (v 44 3) (v 44 4) (v 44 5) (v 44 6) (v 44 7) (n := 1) rfl rfl
      have ho2 : ∀ z lo2 : Int32, (zr_myear D Gn (v 71) (v 75) (zr_mnoSlips (v 79)) (v 68 26) (v 80) (v 81) (v 82)).1 14 = z → lo2 = v 75 14 → (zr_myear D Gn (v 71) (v 75) (zr_mnoSlips (v 79)) (v 68 26) (v 80) (v 81) (v 82)).1 14 &&& (v 75 14 ^^^ (-1)) = z &&& (lo2 ^^^ (-1)) := fun z lo2 e1 e2 => by rw [e1, e2]
      have hK := zK_year_f (w := w) (t := t) (Ls := Ls) (xs := xs) hst D ht.2.1.1 ht.1.1 Mn ht.2.1.2.2.1 ht.1.2.1 Gn ht.2.1.2.2.2.2.1 ht.1.2.2.1 (zy_li5 ht.1.2.1 hs) ht.2.2.2.2.1 p hp hp16 k hk hk16 hy
      rcases zy_16 hk16 with hlt | hk6
      · exact zT.mk hK (zM_year_f (v := (zb (zb (zb (zb (zvR_now (zb v 0 (upd (v 0) 10 0)) D Mn Gn 1) 32 (upd (upd ((zvR_now (zb v 0 (upd (v 0) 10 0)) D Mn Gn 1) 32) 0 (((zvR_now (zb v 0 (upd (v 0) 10 0)) D Mn Gn 1) 32 0) + 1)) 1 ((zvR_now (zb v 0 (upd (v 0) 10 0)) D Mn Gn 1) 43 3))) 35 (zf (zl_yearG ((zb (zb (zb (zvR_now (zb v 0 (upd (v 0) 10 0)) D Mn Gn 1) 32 (upd (upd ((zvR_now (zb v 0 (upd (v 0) 10 0)) D Mn Gn 1) 32) 0 (((zvR_now (zb v 0 (upd (v 0) 10 0)) D Mn Gn 1) 32 0) + 1)) 1 ((zvR_now (zb v 0 (upd (v 0) 10 0)) D Mn Gn 1) 43 3))) 40 (upd (upd ((zvR_now (zb v 0 (upd (v 0) 10 0)) D Mn Gn 1) 40) 1 (nI ((p + 1) % 16))) 2 (nI (min (k + 1) 16)))) 41 (zr_save ((zvR_now (zb v 0 (upd (v 0) 10 0)) D Mn Gn 1) 41) (p * 16) ((zvR_now (zb v 0 (upd (v 0) 10 0)) D Mn Gn 1) 32 0) ((zvR_now (zb v 0 (upd (v 0) 10 0)) D Mn Gn 1) 32 1) ((zvR_now (zb v 0 (upd (v 0) 10 0)) D Mn Gn 1) 33) ((zvR_now (zb v 0 (upd (v 0) 10 0)) D Mn Gn 1) 34) ((zvR_now (zb v 0 (upd (v 0) 10 0)) D Mn Gn 1) 35))) 50)) Mn 0 ((zvR_now (zb v 0 (upd (v 0) 10 0)) D Mn Gn 1) 35))) 40 (upd (upd ((zvR_now (zb v 0 (upd (v 0) 10 0)) D Mn Gn 1) 40) 1 (nI ((p + 1) % 16))) 2 (nI (min (k + 1) 16)))) 41 (zr_save ((zvR_now (zb v 0 (upd (v 0) 10 0)) D Mn Gn 1) 41) (p * 16) ((zvR_now (zb v 0 (upd (v 0) 10 0)) D Mn Gn 1) 32 0) ((zvR_now (zb v 0 (upd (v 0) 10 0)) D Mn Gn 1) 32 1) ((zvR_now (zb v 0 (upd (v 0) 10 0)) D Mn Gn 1) 33) ((zvR_now (zb v 0 (upd (v 0) 10 0)) D Mn Gn 1) 34) ((zvR_now (zb v 0 (upd (v 0) 10 0)) D Mn Gn 1) 35)))) (h.lv.trans hst) hy2 k hun hlt D ht.2.1.2.1 ht.1.1 Gn ht.2.1.2.2.2.2.2.1 ht.1.2.2.1 (zy_ev ht) (zy_lie ht hs)) (ho2 _ _ hyr.1 hs.2.1) ⟨⟨hst0, hfl, htp, hr7, h46, hw16, D, Mn, Gn, Un, ht, hyr.2, zy_note ht.1.2.1 ht.1.2.2.1 ⟨hk16, hp16, hi3⟩ ⟨hk, hun, hp, hi, him⟩ hu hima hs (show nI (k + 1) = _ by rw [show min (k + 1) 16 = k + 1 by omega]) (Or.inl ⟨hlt, rfl⟩), Or.inr (zy_st1 hz hst)⟩, rfl, fun z => absurd (show (0 : Int32) = 4 from z) (by decide)⟩
      · exact zT.mk hK (zM_year_g (v := (zb (zb (zb (zb (zvR_now (zb v 0 (upd (v 0) 10 0)) D Mn Gn 1) 32 (upd (upd ((zvR_now (zb v 0 (upd (v 0) 10 0)) D Mn Gn 1) 32) 0 (((zvR_now (zb v 0 (upd (v 0) 10 0)) D Mn Gn 1) 32 0) + 1)) 1 ((zvR_now (zb v 0 (upd (v 0) 10 0)) D Mn Gn 1) 43 3))) 35 (zf (zl_yearG ((zb (zb (zb (zvR_now (zb v 0 (upd (v 0) 10 0)) D Mn Gn 1) 32 (upd (upd ((zvR_now (zb v 0 (upd (v 0) 10 0)) D Mn Gn 1) 32) 0 (((zvR_now (zb v 0 (upd (v 0) 10 0)) D Mn Gn 1) 32 0) + 1)) 1 ((zvR_now (zb v 0 (upd (v 0) 10 0)) D Mn Gn 1) 43 3))) 40 (upd (upd ((zvR_now (zb v 0 (upd (v 0) 10 0)) D Mn Gn 1) 40) 1 (nI ((p + 1) % 16))) 2 (nI (min (k + 1) 16)))) 41 (zr_save ((zvR_now (zb v 0 (upd (v 0) 10 0)) D Mn Gn 1) 41) (p * 16) ((zvR_now (zb v 0 (upd (v 0) 10 0)) D Mn Gn 1) 32 0) ((zvR_now (zb v 0 (upd (v 0) 10 0)) D Mn Gn 1) 32 1) ((zvR_now (zb v 0 (upd (v 0) 10 0)) D Mn Gn 1) 33) ((zvR_now (zb v 0 (upd (v 0) 10 0)) D Mn Gn 1) 34) ((zvR_now (zb v 0 (upd (v 0) 10 0)) D Mn Gn 1) 35))) 50)) Mn 0 ((zvR_now (zb v 0 (upd (v 0) 10 0)) D Mn Gn 1) 35))) 40 (upd (upd ((zvR_now (zb v 0 (upd (v 0) 10 0)) D Mn Gn 1) 40) 1 (nI ((p + 1) % 16))) 2 (nI (min (k + 1) 16)))) 41 (zr_save ((zvR_now (zb v 0 (upd (v 0) 10 0)) D Mn Gn 1) 41) (p * 16) ((zvR_now (zb v 0 (upd (v 0) 10 0)) D Mn Gn 1) 32 0) ((zvR_now (zb v 0 (upd (v 0) 10 0)) D Mn Gn 1) 32 1) ((zvR_now (zb v 0 (upd (v 0) 10 0)) D Mn Gn 1) 33) ((zvR_now (zb v 0 (upd (v 0) 10 0)) D Mn Gn 1) 34) ((zvR_now (zb v 0 (upd (v 0) 10 0)) D Mn Gn 1) 35)))) (h.lv.trans hst) hy2 (by show v 68 23 = 16; rw [hun, hk6]; rfl) D ht.2.1.2.1 ht.1.1 Gn ht.2.1.2.2.2.2.2.1 ht.1.2.2.1 (zy_ev ht) (zy_lie ht hs)) (ho2 _ _ hyr.1 hs.2.1) ⟨⟨hst0, hfl, htp, hr7, h46, hw16, D, Mn, Gn, Un, ht, hyr.2, zy_note ht.1.2.1 ht.1.2.2.1 ⟨hk16, hp16, hi3⟩ ⟨hk, hun, hp, hi, him⟩ hu hima hs (show (16 : Int32) = _ by rw [hk6]; rfl) (Or.inr ⟨hk6, rfl⟩), Or.inr (zy_st1 hz hst)⟩, rfl, fun z => absurd (show (0 : Int32) = 4 from z) (by decide)⟩
end ZTF
