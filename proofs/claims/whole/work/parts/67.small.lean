/-! ties: small calls -/
theorem zfr_congr {σ ρ : Type} {G H : Nat → σ → σ ⊕ ρ} : ∀ (n i : Nat) (s : σ), (∀ j s, i ≤ j → j < i + n → G j s = H j s) → zfr G n i s = zfr H n i s
  | 0, i, s, _ => rfl
  | n + 1, i, s, h => by
    unfold zfr
    rw [h i s (Nat.le_refl _) (by omega)]
    cases H i s with
    | inl s' => exact zfr_congr n (i + 1) s' (fun j s a b => h j s (by omega) (by omega))
    | inr r => rfl
/-- bits gathered -/
theorem zt_bits {G : Nat → Int32 → Int32} {c : Nat → Bool} : ∀ (n i : Nat) (x : Int32), (∀ j a, i ≤ j → j < i + n → G j a = if c j = true then a ||| ((1 : Int32) <<< ((nI j) &&& 31)) else a) → i + n ≤ 32 → ∀ d, d < 32 → bt (zf G n i x) d = (bt x d || (decide (i ≤ d ∧ d < i + n) && c d))
  | 0, i, x, _, _, d, _ => by
    rw [decide_eq_false (by omega), Bool.false_and, Bool.or_false]; rfl
  | n + 1, i, x, h, hn, d, hd => by
    rw [zf_succ, zt_bits n (i + 1) _ (fun j a h1 h2 => h j a (by omega) (by omega)) (by omega) d hd, h i x (Nat.le_refl _) (by omega)]
    by_cases e : d = i
    · subst e
      rw [decide_eq_false (show ¬ (d + 1 ≤ d ∧ d < d + 1 + n) by omega), decide_eq_true (show d ≤ d ∧ d < d + (n + 1) by omega), Bool.false_and, Bool.or_false, Bool.true_and]
      cases hc : c d with
      | true => rw [if_pos rfl, zt_or1 _ hd hd, decide_eq_true rfl]
      | false => rw [if_neg (by decide), Bool.or_false]
    · have e1 : bt (if c i = true then x ||| ((1 : Int32) <<< ((nI i) &&& 31)) else x) d = bt x d := by
        split
        · rw [zt_or1 _ (by omega) hd, decide_eq_false e, Bool.or_false]
        · rfl
      rw [e1]
      by_cases e2 : i + 1 ≤ d ∧ d < i + 1 + n
      · rw [decide_eq_true e2, decide_eq_true (show i ≤ d ∧ d < i + (n + 1) by omega)]
      · rw [decide_eq_false e2, decide_eq_false (show ¬ (i ≤ d ∧ d < i + (n + 1)) by omega)]
theorem zt_tob (x : Int32) {j : Nat} (hj : j < 32) : ((x >>> (nI j &&& 31)) &&& 1) = 0 ↔ bt x j = false := by
  rw [zt_sh x hj]
  cases bt x j with
  | true => rw [if_pos rfl]; exact ⟨fun z => absurd z (by decide), fun z => by cases z⟩
  | false => rw [if_neg (by decide)]; exact ⟨fun _ => rfl, fun _ => rfl⟩
section ZY4
variable {D Mn Gn Un : Nat} {r20 r21 r22 r23 r24 r25 r26 r27 r28 r29 r30 r31 r71 r73 : Nat → Int32} {ys lo : Int32} {li th la st : Nat → Int32}
theorem zy_fear (ht : zI_t D Mn Gn Un r20 r21 r22 r23 r24 r25 r26 r27 r28 r29 r30 r31 r71 r73) {d : Nat} (hd : d < 8) : zr_mfearers Gn r71 (nI d) = zr_goodsFearing Gn r27 (nI d) := by
  unfold zr_mfearers zr_goodsFearing
  refine zf_congr Gn 0 0 (fun j a _ hj => ?_)
  unfold zl_mfearersG zl_goodsFearingG
  simp only
  rw [zy_or0, ← (ht.2.2.2.2.2.2.1 j (by omega)).1.2]
  by_cases hb : bt (r27 j) d = false
  · rw [if_pos ((zt_hb0 _ (by omega)).mpr hb), if_pos ((zt_tob _ (by omega)).mpr hb)]
  · rw [if_neg (fun z => hb ((zt_hb0 _ (by omega)).mp z)), if_neg (fun z => hb ((zt_tob _ (by omega)).mp z))]
theorem zy_think (hs : zI_s D Mn Gn ys lo li th la st) {d : Nat} (hd : d < 8) : zr_mthinkers Mn st (nI d) = zr_makersThinkingOf Mn th (nI d) := by
  unfold zr_mthinkers zr_makersThinkingOf
  refine zf_congr Mn 0 0 (fun j a _ hj => ?_)
  unfold zl_mthinkersG zl_makersThinkingOfG
  simp only
  rw [zy_or0, ← (hs.2.2.2.2.1 j (by omega)).1]
  by_cases hb : bt (th j) d = false
  · rw [if_pos ((zt_hb0 _ (by omega)).mpr hb), if_pos ((zt_tob _ (by omega)).mpr hb)]
  · rw [if_neg (fun z => hb ((zt_hb0 _ (by omega)).mp z)), if_neg (fun z => hb ((zt_tob _ (by omega)).mp z))]
theorem zy_goodIn (hM : Mn ≤ 5) (hs : zI_s D Mn Gn ys lo li th la st) {e : Nat} (he : e < Mn) : zr_mgoodIn Gn st (nI e) = zr_goodIn Gn li (nI e) := by
  unfold zr_mgoodIn zr_goodIn
  have hc : zfr (zl_mgoodInG st (nI e)) Gn 0 () = zfr (zl_goodInG li (nI e)) Gn 0 () := by
    refine zfr_congr Gn 0 () (fun j a _ hj => ?_)
    unfold zl_mgoodInG zl_goodInG
    rw [nI_1]
    rcases hs.2.2.1 j (by omega) with ⟨h1, h2⟩ | ⟨f, hf, h1, h2⟩
    · rw [if_neg (by rw [h1]; exact fun z => nI_ne0 (show 0 < e + 1 by omega) (by omega) z.symm), if_neg (by rw [h2]; exact (by decide +kernel : ∀ k, k < 5 → ¬ (-2 : Int32) = nI k) e (by omega))]
    · by_cases hfe : f = e
      · subst hfe
        rw [if_pos h1, if_pos h2]
      · rw [if_neg (by rw [h1]; exact fun z => hfe (by have := (nI_eq (show f + 1 < 2 ^ 31 by omega) (show e + 1 < 2 ^ 31 by omega)).mp z; omega)), if_neg (by rw [h2]; exact fun z => hfe ((nI_eq (by omega) (by omega)).mp z))]
  rw [hc]
  cases zfr (zl_goodInG li (nI e)) Gn 0 () <;> rfl
theorem zy_goodIn01 (Gn : Nat) (li : Nat → Int32) (m : Int32) : zr_goodIn Gn li m = -2 ∨ ∃ q, q < Gn ∧ zr_goodIn Gn li m = nI q ∧ li q = m := by
  unfold zr_goodIn
  have hf := zfr_find (G := zl_goodInG li m) (S := fun _ => ()) (p := fun j => decide (li j = m)) (f := fun j => nI j) (N := Gn) (fun j _ => by
    unfold zl_goodInG
    by_cases h : li j = m
    · rw [if_pos h, if_pos (decide_eq_true h)]
    · rw [if_neg h, if_neg (by rw [decide_eq_false h]; decide)]) Gn 0 (by omega)
  rcases hf with ⟨h1, _⟩ | ⟨k, h1, h2, h3, h4, _⟩
  · rw [h1]; exact Or.inl rfl
  · rw [h3]; exact Or.inr ⟨k, by omega, rfl, of_decide_eq_true h4⟩
theorem zy_and0 (x y : Int32) (h : y = 0) : x &&& (y ^^^ (-1)) = x := b_ext (fun i hi => by rw [b_and, b_xor, h, b_0, b_m1 i hi]; cases bt x i <;> rfl)
theorem zy_keeps (ht : zI_t D Mn Gn Un r20 r21 r22 r23 r24 r25 r26 r27 r28 r29 r30 r31 r71 r73) (hs : zI_s D Mn Gn ys lo li th la st) {e y : Nat} (he : e < Mn) (hy : y ≤ 999) (slp : Nat → Int32) : zr_moutOf r71 st (zr_mnoSlips slp) e (nI y) = zr_keepsOutK (la e) (th e) (r23 e) y := by
  obtain ⟨hM, hG, w1, w2, w3, _, _⟩ := zy_W ht hs.w
  obtain ⟨T, hT, hth⟩ := w2 e he
  obtain ⟨L, hL, hl⟩ := w3 e he
  rw [zg_out (w1 e he) hT hth (by omega), zy_and0 _ _ (zr_mnoS_at slp (by omega))]
  unfold zr_keepsOutK
  rw [(hs.2.2.2.2.2 e he).1, (hs.2.2.2.2.1 e he).1, (ht.2.2.2.2.2.1 e he).1]
  cases L with
  | zero => rw [if_pos (by rw [hl]; rfl), if_pos (by rw [hl]; decide)]
  | succ k => rw [if_neg (by rw [hl]; exact nI_ne0 (by omega) (by omega)), if_neg (by rw [hl]; exact nI_nle (by omega) (by omega))]
theorem zy_bit {d F V Z : Nat} (hD : D ≤ 8) (hd : d < D) (hev : ∀ d, d < D → ∃ V F, 1 ≤ V ∧ V ≤ 9 ∧ r71 (7 + 2 * d) = nI V ∧ F ≤ 30 ∧ r71 ((7 + 2 * d) + 1) = nI F) (hV : r71 (7 + 2 * d) = nI V) (hV9 : V ≤ 9) (hF : r71 ((7 + 2 * d) + 1) = nI F) (hF9 : F ≤ 30) (hZ : Z < 2 ^ 30) : bt (zr_mstrikersIn D r71 (nI Z)) d = decide (F ≤ Z ∧ (Z - F) % V = 0) := by
  unfold zr_mstrikersIn
  rw [zt_bits (c := fun d => decide ((nI Z - r71 ((7 + 2 * d) + 1)).toInt ≥ 0 ∧ (nI Z - r71 ((7 + 2 * d) + 1)) - (nI Z - r71 ((7 + 2 * d) + 1)) / r71 (7 + 2 * d) * r71 (7 + 2 * d) = 0)) D 0 0 ?_ (by omega) d (by omega)]
  · rw [b_0, decide_eq_true (show 0 ≤ d ∧ d < 0 + D by omega), Bool.false_or, Bool.true_and, hV, hF]
    obtain ⟨V', F', h1, h2, h3, h4, h5⟩ := hev d hd
    have hVV : V = V' := (nI_eq (by omega) (by omega)).mp (hV.symm.trans h3)
    apply decide_eq_decide.mpr
    rw [pk_sub_toInt hZ (show F < 2 ^ 30 by omega)]
    by_cases hFZ : F ≤ Z
    · have e : nI Z - nI F = nI (Z - F) := pk_sub hFZ
      rw [e, pk_rem (by omega) (by omega) (by omega), ← nI_0, nI_eq (by have := Nat.mod_lt (Z - F) (show 0 < V by omega); omega) (by decide)]
      exact ⟨fun z => ⟨hFZ, z.2⟩, fun z => ⟨by omega, z.2⟩⟩
    · exact ⟨fun z => absurd z.1 (by omega), fun z => absurd z.1 hFZ⟩
  · intro j a _ hj
    obtain ⟨V', F', h1, h2, h3, h4, h5⟩ := hev j (by omega)
    unfold zl_mstrikersInG
    simp only
    rw [zy_or0, h3, h5]
    have hti : (nI Z - nI F').toInt = (Z : Int) - F' := pk_sub_toInt hZ (by omega)
    have hneg : (nI Z - nI F' < 0) ↔ ¬ (nI Z - nI F').toInt ≥ 0 := by
      rw [Int32.lt_iff_toInt_lt]
      show _ < (0 : Int) ↔ _
      omega
    by_cases hn : nI Z - nI F' < 0
    · rw [if_pos hn, if_neg (fun z => (hneg.mp hn) (of_decide_eq_true z).1)]
    · rw [if_neg hn]
      have hge : (nI Z - nI F').toInt ≥ 0 := Classical.byContradiction (fun z => hn (hneg.mpr z))
      by_cases hr : nI Z - nI F' - (nI Z - nI F') / nI V' * nI V' = 0
      · rw [if_pos hr, if_pos (decide_eq_true ⟨hge, hr⟩)]
      · rw [if_neg hr, if_neg (fun z => hr (of_decide_eq_true z).2)]
theorem zw_sn {d T : Nat} (hT : ¬ zr_mhasBit (zr_mstrikersIn D r71 (nI T)) (nI d) = 0) : ∀ (n y : Nat), y ≤ T → T - y < n → (∀ z, y ≤ z → z < T → zr_mhasBit (zr_mstrikersIn D r71 (nI z)) (nI d) = 0) → zw (zl_msnG D r71 d) n y = T
  | 0, y, _, h, _ => absurd h (Nat.not_lt_zero _)
  | n + 1, y, hy, hn, h => by
    unfold zw zl_msnG
    simp only
    by_cases e : y = T
    · subst e
      rw [if_neg hT]
    · rw [if_pos (h y (Nat.le_refl _) (by omega))]
      exact zw_sn hT n (y + 1) (by omega) (by omega) (fun z h1 h2 => h z (by omega) h2)
end ZY4
theorem zy_weave (n : Nat) (k : Int32) : zr_mweave n k = zr_cw n k := by
  unfold zr_mweave zr_cw
  have key : ∀ (m i j : Nat) (s : Int64 × Int64), zf (zl_mweaveG k) m i s = zf (zl_cwG k) m j s := by
    intro m
    induction m with
    | zero => intro i j s; rfl
    | succ m ih =>
      intro i j s
      rw [zf_succ, zf_succ]
      have e : zl_mweaveG k i s = zl_cwG k j s := by
        obtain ⟨a, b⟩ := s
        unfold zl_mweaveG zl_cwG
        simp only
        rw [Int64.mul_comm a, Int64.mul_comm b]
      rw [e]
      exact ih _ _ _
  rw [key]
theorem zy_rests : ∀ r, r ≤ 9 → (zr_mrests (nI r)).1 = zr_cRests (nI r) ∧ (zr_mrests (nI r)).2 = zr_fRest (nI r) := by decide +kernel
section ZTC
variable {Ls : Nat} {xs : Nat → Int32} {v : Nat → Nat → Int32} {w : Nat → Nat → Int64} {t : zk_H}
theorem zT_fault (h : zJ v w) : zT Ls xs v w t 4 45 [] := zT.mk zK_fault zM_fault h.1.2.1.symm (by exact h)
theorem zT_trouble (h : zJ v w) : zT Ls xs v w t 7 63 [] := zT.mk zK_trouble zM_trouble h.2.1.symm (by exact h)
theorem zT_where (h : zJ v w) : zT Ls xs v w t 8 65 [] := by
  refine zT.mk zK_where zM_where ?_ (by exact h)
  unfold zr_mwhere zr_whereK
  rw [← h.2.1]
  split
  · rename_i hz; exact (h.2.2 hz).symm
  · rfl
theorem zT_danger (h : zJ v w) (x y : Int32) : zT Ls xs v w t 135 165 [.int x, .int y] := by
  obtain ⟨_, _, _, _, h46, _, D, Mn, Gn, Un, ht, hs, _, hz⟩ := h.1
  rcases zt_isX h.st (show D ≤ 8 by have := ht.1.1; omega) x with ⟨hx, hg⟩ | ⟨hst, a, ha, rfl, hg⟩
  · rw [← ht.2.1.1] at hx
    rw [← h.lv, ← ht.2.1.2.1] at hg
    exact zT.mk (zK_danger_t x hx y) (zM_danger_t (v := zb v 0 (upd (v 0) 10 1)) x y hg) rfl (by exact zJ.of 1 (by decide) h.1 rfl rfl)
  · rw [← h.lv, ← ht.2.1.2.1] at hg
    rcases zt_win y 0 3 (by decide) (by decide) with ⟨ho, hw⟩ | ⟨n, hn0, hn3, rfl, hw⟩
    · have hw2 : y.toInt < 0 ∨ 3 < y.toInt := ho.elim (fun z => Or.inl (Int32.lt_iff_toInt_lt.mp z)) (fun z => Or.inr (Int32.lt_iff_toInt_lt.mp z))
      exact zT.mk (zK_danger_d hst D ht.2.1.1 ht.1.1 a ha y hw2) (zM_danger_d (v := zb v 0 (upd (v 0) 10 1)) (nI a) y hg hw) rfl (by exact zJ.of 1 (by decide) h.1 rfl rfl)
    · rcases (show n = 0 ∨ n = 1 ∨ n = 2 ∨ n = 3 by omega) with rfl | rfl | rfl | rfl
      · exact zT.mk (zK_danger_0 hst D ht.2.1.1 ht.1.1 Gn ht.2.1.2.2.2.2.1 ht.1.2.2.1 a ha) (zM_danger_0 (v := zb v 0 (upd (v 0) 10 0)) a (by have := ht.1.1; omega) hg) (ht.2.2.2.1 a ha).1.symm (by exact zJ.of 0 (by decide) h.1 rfl rfl)
      · exact zT.mk (zK_danger_1 hst D ht.2.1.1 ht.1.1 Gn ht.2.1.2.2.2.2.1 ht.1.2.2.1 a ha) (zM_danger_1 (v := zb v 0 (upd (v 0) 10 0)) a (by have := ht.1.1; omega) hg) (ht.2.2.2.1 a ha).2.1.symm (by exact zJ.of 0 (by decide) h.1 rfl rfl)
      · exact zT.mk (zK_danger_2 hst D ht.2.1.1 ht.1.1 Gn ht.2.1.2.2.2.2.1 ht.1.2.2.1 a ha) (zM_danger_2 (v := zb v 0 (upd (v 0) 10 0)) a (by have := ht.1.1; omega) hg Gn ht.2.1.2.2.2.2.2.1 ht.1.2.2.1) (zy_fear ht (by have := ht.1.1; omega)) (by exact zJ.of 0 (by decide) h.1 rfl rfl)
      · exact zT.mk (zK_danger_3 hst D ht.2.1.1 ht.1.1 Mn ht.2.1.2.2.1 ht.1.2.1 a ha) (zM_danger_3 (v := zb v 0 (upd (v 0) 10 0)) a (by have := ht.1.1; omega) hg Mn ht.2.1.2.2.2.1 ht.1.2.1) (zy_think hs (by have := ht.1.1; omega)) (by exact zJ.of 0 (by decide) h.1 rfl rfl)
theorem zT_maker (h : zJ v w) (x y : Int32) : zT Ls xs v w t 142 167 [.int x, .int y] := by
  obtain ⟨_, _, _, _, h46, _, D, Mn, Gn, Un, ht, hs, _, hz⟩ := h.1
  rcases zt_isX h.st (show Mn ≤ 8 by have := ht.1.2.1; omega) x with ⟨hx, hg⟩ | ⟨hst, a, ha, rfl, hg⟩
  · rw [← ht.2.1.2.2.1] at hx
    rw [← h.lv, ← ht.2.1.2.2.2.1] at hg
    exact zT.mk (zK_maker_t x hx y) (zM_maker_t (v := zb v 0 (upd (v 0) 10 1)) x y hg) rfl (by exact zJ.of 1 (by decide) h.1 rfl rfl)
  · rw [← h.lv, ← ht.2.1.2.2.2.1] at hg
    rcases zt_win y 0 3 (by decide) (by decide) with ⟨ho, hw⟩ | ⟨n, hn0, hn3, rfl, hw⟩
    · have hw2 : y.toInt < 0 ∨ 3 < y.toInt := ho.elim (fun z => Or.inl (Int32.lt_iff_toInt_lt.mp z)) (fun z => Or.inr (Int32.lt_iff_toInt_lt.mp z))
      exact zT.mk (zK_maker_d hst Mn ht.2.1.2.2.1 ht.1.2.1 a ha y hw2) (zM_maker_d (v := zb v 0 (upd (v 0) 10 1)) (nI a) y hg hw) rfl (by exact zJ.of 1 (by decide) h.1 rfl rfl)
    · rcases (show n = 0 ∨ n = 1 ∨ n = 2 ∨ n = 3 by omega) with rfl | rfl | rfl | rfl
      · exact zT.mk (zK_maker_0 hst Mn ht.2.1.2.2.1 ht.1.2.1 a ha) (zM_maker_0 (v := zb v 0 (upd (v 0) 10 0)) a (by have := ht.1.2.1; omega) hg) (ht.2.2.2.2.2.1 a ha).1.symm (by exact zJ.of 0 (by decide) h.1 rfl rfl)
      · exact zT.mk (zK_maker_1 hst Mn ht.2.1.2.2.1 ht.1.2.1 a ha) (zM_maker_1 (v := zb v 0 (upd (v 0) 10 0)) a (by have := ht.1.2.1; omega) hg) (hs.2.2.2.2.2 a ha).1.symm (by exact zJ.of 0 (by decide) h.1 rfl rfl)
      · exact zT.mk (zK_maker_2 hst Mn ht.2.1.2.2.1 ht.1.2.1 a ha) (zM_maker_2 (v := zb v 0 (upd (v 0) 10 0)) a (by have := ht.1.2.1; omega) hg) (hs.2.2.2.2.1 a ha).1.symm (by exact zJ.of 0 (by decide) h.1 rfl rfl)
      · exact zT.mk (zK_maker_3 hst Mn ht.2.1.2.2.1 ht.1.2.1 Gn ht.2.1.2.2.2.2.1 ht.1.2.2.1 a ha) (zM_maker_3 (v := zb v 0 (upd (v 0) 10 0)) a (by have := ht.1.2.1; omega) hg Gn ht.2.1.2.2.2.2.2.1 ht.1.2.2.1) (zy_goodIn ht.1.2.1 hs ha) (by exact zJ.of 0 (by decide) h.1 rfl rfl)
theorem zy_good2 {D Mn Gn : Nat} {ys lo : Int32} {li th la st : Nat → Int32} (hM : Mn ≤ 5) (hs : zI_s D Mn Gn ys lo li th la st) {a : Nat} (ha : a < Gn) : zr_mgood2 (st (10 + a)) = li a := by
  unfold zr_mgood2
  rcases hs.2.2.1 a ha with ⟨h1, h2⟩ | ⟨e, he, h1, h2⟩
  · rw [h1, h2, if_pos rfl]
  · rw [h1, h2, if_neg (nI_ne0 (by omega) (by omega))]
    exact nI_pred e
theorem zy_good3 (lo : Int32) {a : Nat} (ha : a < 32) : (lo >>> ((nI a) &&& 31)) &&& 1 = zr_good3 lo a := by
  unfold zr_good3
  rw [zt_sh lo ha, zt_il lo ha]
  cases bt lo a <;> rfl
theorem zT_good (h : zJ v w) (x y : Int32) : zT Ls xs v w t 138 166 [.int x, .int y] := by
  obtain ⟨_, _, _, _, h46, _, D, Mn, Gn, Un, ht, hs, _, hz⟩ := h.1
  rcases zt_isX h.st (show Gn ≤ 8 by have := ht.1.2.2.1; omega) x with ⟨hx, hg⟩ | ⟨hst, a, ha, rfl, hg⟩
  · rw [← ht.2.1.2.2.2.2.1] at hx
    rw [← h.lv, ← ht.2.1.2.2.2.2.2.1] at hg
    exact zT.mk (zK_good_t x hx y) (zM_good_t (v := zb v 0 (upd (v 0) 10 1)) x y hg) rfl (by exact zJ.of 1 (by decide) h.1 rfl rfl)
  · rw [← h.lv, ← ht.2.1.2.2.2.2.2.1] at hg
    rcases zt_win y 0 3 (by decide) (by decide) with ⟨ho, hw⟩ | ⟨n, hn0, hn3, rfl, hw⟩
    · have hw2 : y.toInt < 0 ∨ 3 < y.toInt := ho.elim (fun z => Or.inl (Int32.lt_iff_toInt_lt.mp z)) (fun z => Or.inr (Int32.lt_iff_toInt_lt.mp z))
      exact zT.mk (zK_good_d hst Gn ht.2.1.2.2.2.2.1 ht.1.2.2.1 a ha y hw2) (zM_good_d (v := zb v 0 (upd (v 0) 10 1)) (nI a) y hg hw) rfl (by exact zJ.of 1 (by decide) h.1 rfl rfl)
    · rcases (show n = 0 ∨ n = 1 ∨ n = 2 ∨ n = 3 by omega) with rfl | rfl | rfl | rfl
      · exact zT.mk (zK_good_0 hst Gn ht.2.1.2.2.2.2.1 ht.1.2.2.1 a ha) (zM_good_0 (v := zb v 0 (upd (v 0) 10 0)) a (by have := ht.1.2.2.1; omega) hg) (ht.2.2.2.2.2.2.1 a ha).1.1.symm (by exact zJ.of 0 (by decide) h.1 rfl rfl)
      · exact zT.mk (zK_good_1 hst Gn ht.2.1.2.2.2.2.1 ht.1.2.2.1 a ha) (zM_good_1 (v := zb v 0 (upd (v 0) 10 0)) a (by have := ht.1.2.2.1; omega) hg) (ht.2.2.2.2.2.2.1 a ha).1.2.symm (by exact zJ.of 0 (by decide) h.1 rfl rfl)
      · exact zT.mk (zK_good_2 hst Gn ht.2.1.2.2.2.2.1 ht.1.2.2.1 a ha) (zM_good_2 (v := zb v 0 (upd (v 0) 10 0)) a (by have := ht.1.2.2.1; omega) hg) (zy_good2 ht.1.2.1 hs ha) (by exact zJ.of 0 (by decide) h.1 rfl rfl)
      · exact zT.mk (zK_good_3 hst Gn ht.2.1.2.2.2.2.1 ht.1.2.2.1 a ha) (zM_good_3 (v := zb v 0 (upd (v 0) 10 0)) a (by have := ht.1.2.2.1; omega) hg) (by rw [show v 32 1 = v 75 14 from hs.2.1]; exact zy_good3 _ (by have := ht.1.2.2.1; omega)) (by exact zJ.of 0 (by decide) h.1 rfl rfl)
theorem zT_strikes (h : zJ v w) (x : Int32) : zT Ls xs v w t 147 127 [.int x] := by
  rcases h.st with hst | hst
  · exact zT.mk (zK_strikes_t x hst) (zM_strikes_t (v := zb v 0 (upd (v 0) 10 1)) x (h.lv.trans hst)) rfl (by exact zJ.of 1 (by decide) h.1 rfl rfl)
  · obtain ⟨_, _, _, _, h46, _, D, Mn, Gn, Un, ht, hs, _, hz⟩ := h.1
    rcases zt_win x 1 999 (by decide) (by decide) with ⟨ho, hw⟩ | ⟨n, h1, h2, rfl, hw⟩
    · exact zT.mk (zK_strikes_o x hst ho) (zM_strikes_o (v := zb v 0 (upd (v 0) 10 2)) x (h.lv.trans hst) hw) rfl (by exact zJ.of 2 (by decide) h.1 rfl rfl)
    · exact zT.mk (zK_strikes_f hst D ht.2.1.1 ht.1.1 n h1 h2) (zM_strikes_f (v := zb v 0 (upd (v 0) 10 0)) (nI n) (h.lv.trans hst) hw D ht.2.1.2.1 ht.1.1 (zy_ev ht)) (zy_strike ht.2.2.2.1 (by omega)).symm (by exact zJ.of 0 (by decide) h.1 rfl rfl)
theorem zT_keepsOut (h : zJ v w) (x y : Int32) : zT Ls xs v w t 141 208 [.int x, .int y] := by
  obtain ⟨_, _, _, _, h46, _, D, Mn, Gn, Un, ht, hs, _, hz⟩ := h.1
  rcases zt_isX h.st (show Mn ≤ 8 by have := ht.1.2.1; omega) x with ⟨hx, hg⟩ | ⟨hst, a, ha, rfl, hg⟩
  · rw [← ht.2.1.2.2.1] at hx
    rw [← h.lv, ← ht.2.1.2.2.2.1] at hg
    exact zT.mk (zK_keepsOut_t x hx y) (zM_keepsOut_t (v := zb v 0 (upd (v 0) 10 1)) x y hg) rfl (by exact zJ.of 1 (by decide) h.1 rfl rfl)
  · rw [← h.lv, ← ht.2.1.2.2.2.1] at hg
    rcases zt_win y 1 999 (by decide) (by decide) with ⟨ho, hw⟩ | ⟨n, h1, h2, rfl, hw⟩
    · exact zT.mk (zK_keepsOut_o hst Mn ht.2.1.2.2.1 ht.1.2.1 a ha y ho) (zM_keepsOut_o (v := zb v 0 (upd (v 0) 10 2)) (nI a) y hg hw) rfl (by exact zJ.of 2 (by decide) h.1 rfl rfl)
    · exact zT.mk (zK_keepsOut_f hst Mn ht.2.1.2.2.1 ht.1.2.1 ht.2.2.2.2.1 a ha n h1 h2) (zM_keepsOut_f (v := zb v 0 (upd (v 0) 10 0)) (nI n) a (by have := ht.1.2.1; omega) hg hw) (zy_keeps ht hs ha h2 _) (by exact zJ.of 0 (by decide) h.1 rfl rfl)
theorem zT_strikesNext (h : zJ v w) (x : Int32) : zT Ls xs v w t 148 178 [.int x] := by
  obtain ⟨_, _, _, _, h46, _, D, Mn, Gn, Un, ht, hs, _, hz⟩ := h.1
  rcases zt_isX h.st (show D ≤ 8 by have := ht.1.1; omega) x with ⟨hx, hg⟩ | ⟨hst, a, ha, rfl, hg⟩
  · rw [← ht.2.1.1] at hx
    rw [← h.lv, ← ht.2.1.2.1] at hg
    exact zT.mk (zK_strikesNext_t x hx) (zM_strikesNext_t (v := zb v 0 (upd (v 0) 10 1)) x hg) rfl (by exact zJ.of 1 (by decide) h.1 rfl rfl)
  · rw [← h.lv, ← ht.2.1.2.1] at hg
    obtain ⟨e1, e2, ⟨V, hV1, hV9, hV⟩, F, hF1, hF9, hF⟩ := ht.2.2.2.1 a ha
    obtain ⟨Y, hY, hys, hr15⟩ := hs.1
    have hev : ∀ d, d < D → ∃ V F, 1 ≤ V ∧ V ≤ 9 ∧ v 71 (7 + 2 * d) = nI V ∧ F ≤ 30 ∧ v 71 ((7 + 2 * d) + 1) = nI F := by
      intro d hd
      obtain ⟨_, _, ⟨V, a1, a2, a3⟩, F, a4, a5, a6⟩ := ht.2.2.2.1 d hd
      exact ⟨V, F, a1, a2, a3, a5, a6⟩
    have hbit : ∀ Z, Z < 2 ^ 30 → (zr_mhasBit (zr_mstrikersIn D (v 71) (nI Z)) (nI a) = 0 ↔ ¬ (F ≤ Z ∧ (Z - F) % V = 0)) := by
      intro Z hZ
      rw [zt_hb0 _ (by have := ht.1.1; omega), zy_bit ht.1.1 ha hev hV hV9 hF hF9 hZ, decide_eq_false_iff_not]
    have hdm := Nat.div_add_mod (Y - F) V
    have hml := Nat.mod_lt (Y - F) (show 0 < V by omega)
    obtain ⟨q, hq⟩ : ∃ q, q = (Y - F) / V := ⟨_, rfl⟩
    have hq9 : q ≤ 999 := by rw [hq]; exact Nat.le_trans (Nat.div_le_self _ _) (by omega)
    rw [← hq] at hdm
    have hqV : q * V = V * q := Nat.mul_comm _ _
    have hqV9 : V * q ≤ Y := by omega
    by_cases hYF : Y < F
    · have hT : ¬ zr_mhasBit (zr_mstrikersIn D (v 71) (nI F)) (nI a) = 0 := fun z => (hbit F (by omega)).mp z ⟨Nat.le_refl _, by rw [Nat.sub_self]; exact Nat.zero_mod _⟩
      refine zT.mk (zK_strikesNext_f hst D ht.2.1.1 ht.1.1 a ha) (zM_strikesNext_f (v := zb v 0 (upd (v 0) 10 0)) D ht.2.1.2.1 ht.1.1 (zy_ev ht) a F hT (by omega) (by have := ht.1.1; omega) hg Y hr15 (by omega)) ?_ (by exact zJ.of 0 (by decide) h.1 rfl rfl)
      show nI (zw (zl_msnG D (v 71) a) (F + 1) (Y + 1)) = _
      rw [zw_sn hT (F + 1) (Y + 1) (by omega) (by omega) (fun z h1 h2 => (hbit z (by omega)).mpr (fun c => by omega))]
      show nI F = zr_firstStrike (v 21) (v 22) a (v 32 0)
      unfold zr_firstStrike
      rw [hys, e2, hF, if_pos (nI_lt hYF (by omega))]
    · obtain ⟨T, hTe⟩ : ∃ T, T = F + (q + 1) * V := ⟨_, rfl⟩
      have hTe2 : T = F + V * q + V := by rw [hTe, Nat.add_mul, Nat.one_mul, hqV]; omega
      have hT : ¬ zr_mhasBit (zr_mstrikersIn D (v 71) (nI T)) (nI a) = 0 := fun z => (hbit T (by omega)).mp z ⟨by omega, by rw [hTe, Nat.add_sub_cancel_left]; exact Nat.mul_mod_left _ _⟩
      refine zT.mk (zK_strikesNext_f hst D ht.2.1.1 ht.1.1 a ha) (zM_strikesNext_f (v := zb v 0 (upd (v 0) 10 0)) D ht.2.1.2.1 ht.1.1 (zy_ev ht) a T hT (by omega) (by have := ht.1.1; omega) hg Y hr15 (by omega)) ?_ (by exact zJ.of 0 (by decide) h.1 rfl rfl)
      show nI (zw (zl_msnG D (v 71) a) (T + 1) (Y + 1)) = _
      rw [zw_sn hT (T + 1) (Y + 1) (by omega) (by omega) (fun z h1 h2 => (hbit z (by omega)).mpr (fun c => by
        have c1 := Nat.div_add_mod (z - F) V
        rw [c.2] at c1
        generalize hp : (z - F) / V = p at c1
        have c2 : V * p > V * q := by omega
        have c3 : q < p := Nat.lt_of_mul_lt_mul_left c2
        have c4 : V * (q + 1) ≤ V * p := Nat.mul_le_mul_left V c3
        rw [Nat.mul_add, Nat.mul_one] at c4
        omega))]
      show nI T = zr_firstStrike (v 21) (v 22) a (v 32 0)
      unfold zr_firstStrike
      rw [hys, e1, e2, hF, hV, if_neg (nI_nlt (by omega) (by omega)), if_pos (show (0 : Int32) < nI V from nI_lt (a := 0) (by omega) (by omega)), pk_sub (by omega), pk_div (by omega) (by omega) (by omega), ← hq, nI_1, pk_mul, nI_add, hTe]
theorem zT_still (h : zJ v w) : zT Ls xs v w t 146 126 [] := by
  rcases h.st with hst | hst
  · exact zT.mk (zK_still_t hst) (zM_still_t (v := zb v 0 (upd (v 0) 10 1)) (h.lv.trans hst)) rfl (by exact zJ.of 1 (by decide) h.1 rfl rfl)
  · obtain ⟨_, _, _, _, h46, _, D, Mn, Gn, Un, ht, hs, _, hz⟩ := h.1
    refine zT.mk (zK_still_f hst D ht.2.1.1 ht.1.1) (zM_still_f (v := zb v 0 (upd (v 0) 10 0)) (h.lv.trans hst) D ht.2.1.2.1 ht.1.1 (zy_ev ht)) ?_ (by exact zJ.of 0 (by decide) h.1 rfl rfl)
    show zr_mstill D (v 71) (v 75) = zr_still D (v 21) (v 22) (v 32 0)
    obtain ⟨Y, hY, hys, hr15⟩ := hs.1
    unfold zr_mstill zr_still
    have hc : zfr (zl_mstillG D (v 71) (v 75)) 60 1 () = zfr (zl_stillG D (v 21) (v 22) (v 32 0)) 60 1 () := by
      refine zfr_congr 60 1 () (fun j a h1 h2 => ?_)
      unfold zl_mstillG zl_stillG
      rw [hys, hr15, nI_add, zy_strike ht.2.2.2.1 (by omega)]
    rw [hc]
    cases zfr (zl_stillG D (v 21) (v 22) (v 32 0)) 60 1 () <;> rfl
theorem zT_vain (h : zJ v w) (x : Int32) : zT Ls xs v w t 151 181 [.int x] := by
  obtain ⟨_, _, _, _, h46, _, D, Mn, Gn, Un, ht, hs, _, hz⟩ := h.1
  rcases zt_isX h.st (show Mn ≤ 8 by have := ht.1.2.1; omega) x with ⟨hx, hg⟩ | ⟨hst, a, ha, rfl, hg⟩
  · rw [← ht.2.1.2.2.1] at hx
    rw [← h.lv, ← ht.2.1.2.2.2.1] at hg
    exact zT.mk (zK_vain_t x hx) (zM_vain_t (v := zb v 0 (upd (v 0) 10 1)) x hg) rfl (by exact zJ.of 1 (by decide) h.1 rfl rfl)
  · rw [← h.lv, ← ht.2.1.2.2.2.1] at hg
    rcases zy_goodIn01 Gn (v 33) (nI a) with hq | ⟨q, hq1, hq, _⟩
    · exact zT.mk (zK_vain_0 hst Mn ht.2.1.2.2.1 ht.1.2.1 a ha Gn ht.2.1.2.2.2.2.1 ht.1.2.2.1 (by rw [hq]; decide)) (zM_vain_n (v := zb v 0 (upd (v 0) 10 0)) a (by have := ht.1.2.1; omega) hg Gn ht.2.1.2.2.2.2.2.1 ht.1.2.2.1 ((zy_goodIn ht.1.2.1 hs ha).trans hq)) (hs.2.2.2.2.1 a ha).1.symm (by exact zJ.of 0 (by decide) h.1 rfl rfl)
    · exact zT.mk (zK_vain_f hst Mn ht.2.1.2.2.1 ht.1.2.1 a ha Gn ht.2.1.2.2.2.2.1 ht.1.2.2.1 q hq (by have := ht.1.2.2.1; omega)) (zM_vain_f (v := zb v 0 (upd (v 0) 10 0)) a (by have := ht.1.2.1; omega) hg Gn ht.2.1.2.2.2.2.2.1 ht.1.2.2.1 q (by have := ht.1.2.2.1; omega) ((zy_goodIn ht.1.2.1 hs ha).trans hq)) (by show v 75 (5 + a) &&& (v 71 ((33 + (2 * q)) + 1) ^^^ (-1)) = v 34 a &&& (v 27 q ^^^ (-1)); rw [(hs.2.2.2.2.1 a ha).1, (ht.2.2.2.2.2.2.1 q hq1).1.2]) (by exact zJ.of 0 (by decide) h.1 rfl rfl)
theorem zy_ww0 {lv : Int32} (h : lv = 0) (x y : Int32) : zr_mweaveWhy lv x y = 1 := by
  unfold zr_mweaveWhy zr_mwhy
  rw [h]
  simp only [if_pos, ite_self]
theorem zy_ww1 {lv : Int32} (h : lv = 1) (x y : Int32) (hw : zr_mwithin x 2 18 = 0) : zr_mweaveWhy lv x y = 2 := by
  unfold zr_mweaveWhy
  rw [if_pos hw, h]; rfl
theorem zy_ww2 {lv : Int32} (h : lv = 1) (x y : Int32) (hw : zr_mwithin x 2 18 = 1) (hw2 : zr_mwithin y 1 9 = 0) : zr_mweaveWhy lv x y = 2 := by
  unfold zr_mweaveWhy
  rw [if_neg (by rw [hw]; decide), if_pos hw2, h]; rfl
theorem zy_ww3 {lv : Int32} (h : lv = 1) (x y : Int32) (hw : zr_mwithin x 2 18 = 1) (hw2 : zr_mwithin y 1 9 = 1) : zr_mweaveWhy lv x y = 0 := by
  unfold zr_mweaveWhy
  rw [if_neg (by rw [hw]; decide), if_neg (by rw [hw2]; decide), h]; rfl
theorem zT_weaves (h : zJ v w) (x y : Int32) : zT Ls xs v w t 198 182 [.int x, .int y] := by
  rcases h.st with hst | hst
  · exact zT.ml (zK_weaves_t x y hst) (zM_weaves_t (v := zb v 0 (upd (v 0) 10 1)) x y (zy_ww0 (h.lv.trans hst) x y)) rfl (by exact zJ.of 1 (by decide) h.1 rfl rfl)
  · rcases zt_win x 2 18 (by decide) (by decide) with ⟨ho, hw⟩ | ⟨n, h1, h2, rfl, hw⟩
    · exact zT.ml (zK_weaves_o x y hst ho) (zM_weaves_o (v := zb v 0 (upd (v 0) 10 2)) x y (zy_ww1 (h.lv.trans hst) x y hw)) rfl (by exact zJ.of 2 (by decide) h.1 rfl rfl)
    · rcases zt_win y 1 9 (by decide) (by decide) with ⟨ho, hw2⟩ | ⟨k, h3, h4, rfl, hw2⟩
      · exact zT.ml (zK_weaves_p n h1 h2 y hst ho) (zM_weaves_o (v := zb v 0 (upd (v 0) 10 2)) (nI n) y (zy_ww2 (h.lv.trans hst) _ y hw hw2)) rfl (by exact zJ.of 2 (by decide) h.1 rfl rfl)
      · exact zT.ml (zK_weaves_f n h1 h2 k h3 h4 hst) (zM_weaves_f (v := zb v 0 (upd (v 0) 10 0)) n h2 (nI k) (zy_ww3 (h.lv.trans hst) _ _ hw hw2)) (congrArg (fun z => (nI k : Int32).toInt64 * z) (zy_weave n (nI k))) (by exact zJ.of 0 (by decide) h.1 rfl rfl)
theorem zT_weavesFrom (h : zJ v w) (x y : Int32) : zT Ls xs v w t 199 183 [.int x, .int y] := by
  rcases h.st with hst | hst
  · exact zT.ml (zK_weavesFrom_t x y hst) (zM_weavesFrom_t (v := zb v 0 (upd (v 0) 10 1)) x y (zy_ww0 (h.lv.trans hst) x y)) rfl (by exact zJ.of 1 (by decide) h.1 rfl rfl)
  · rcases zt_win x 2 18 (by decide) (by decide) with ⟨ho, hw⟩ | ⟨n, h1, h2, rfl, hw⟩
    · exact zT.ml (zK_weavesFrom_o x y hst ho) (zM_weavesFrom_o (v := zb v 0 (upd (v 0) 10 2)) x y (zy_ww1 (h.lv.trans hst) x y hw)) rfl (by exact zJ.of 2 (by decide) h.1 rfl rfl)
    · rcases zt_win y 1 9 (by decide) (by decide) with ⟨ho, hw2⟩ | ⟨k, h3, h4, rfl, hw2⟩
      · exact zT.ml (zK_weavesFrom_p n h1 h2 y hst ho) (zM_weavesFrom_o (v := zb v 0 (upd (v 0) 10 2)) (nI n) y (zy_ww2 (h.lv.trans hst) _ y hw hw2)) rfl (by exact zJ.of 2 (by decide) h.1 rfl rfl)
      · exact zT.ml (zK_weavesFrom_f n h1 h2 k h3 h4 hst) (zM_weavesFrom_f (v := zb v 0 (upd (v 0) 10 0)) n h2 (nI k) (zy_ww3 (h.lv.trans hst) _ _ hw hw2)) (zy_weave n (nI k)) (by exact zJ.of 0 (by decide) h.1 rfl rfl)
theorem zT_strokes (h : zJ v w) (x y : Int32) : zT Ls xs v w t 149 128 [.int x, .int y] := by
  rcases h.st with hst | hst
  · rcases zt_win x 1 9 (by decide) (by decide) with ⟨ho, hw⟩ | ⟨k, h1, h2, rfl, hw⟩
    · exact zT.mk (zK_strokes_t x y hst) (zM_strokes_t1 (v := zb v 0 (upd (v 0) 10 1)) x y (h.lv.trans hst) hw) rfl (by exact zJ.of 1 (by decide) h.1 rfl rfl)
    · rcases zt_win y 0 2000000000 (by decide) (by decide) with ⟨ho, hw2⟩ | ⟨m, h3, h4, rfl, hw2⟩
      · exact zT.mk (zK_strokes_t _ y hst) (zM_strokes_t2 (v := zb v 0 (upd (v 0) 10 1)) _ y (h.lv.trans hst) hw hw2) rfl (by exact zJ.of 1 (by decide) h.1 rfl rfl)
      · exact zT.mk (zK_strokes_t _ _ hst) (zM_strokes_t3 (v := zb v 0 (upd (v 0) 10 1)) _ _ (h.lv.trans hst) hw hw2) rfl (by exact zJ.of 1 (by decide) h.1 rfl rfl)
  · rcases zt_win x 1 9 (by decide) (by decide) with ⟨ho, hw⟩ | ⟨k, h1, h2, rfl, hw⟩
    · exact zT.mk (zK_strokes_o x y hst ho) (zM_strokes_o1 (v := zb v 0 (upd (v 0) 10 2)) x y (h.lv.trans hst) hw) rfl (by exact zJ.of 2 (by decide) h.1 rfl rfl)
    · rcases zt_win y 0 2000000000 (by decide) (by decide) with ⟨ho, hw2⟩ | ⟨m, h3, h4, rfl, hw2⟩
      · exact zT.mk (zK_strokes_p k h1 h2 y hst ho) (zM_strokes_o2 (v := zb v 0 (upd (v 0) 10 2)) _ y (h.lv.trans hst) hw hw2) rfl (by exact zJ.of 2 (by decide) h.1 rfl rfl)
      · obtain ⟨c17, h17⟩ : ∃ c : Nat, c = 17 := ⟨17, rfl⟩
        refine zT.mk (zK_strokes_f k h1 h2 m h4 hst) (zM_strokes_f (v := zb v 0 (upd (v 0) 10 0)) _ _ (h.lv.trans hst) hw hw2 c17 h17) ?_ (by exact zJ.of 0 (by decide) h.1 rfl rfl)
        unfold zr_mstk zr_strokes
        have hc : zfr (zl_mstkG (nI k) (nI m) ) c17 2 () = zfr (zl_strokesG (nI k) (nI m)) c17 2 () := by
          refine zfr_congr c17 2 () (fun j a _ _ => ?_)
          unfold zl_mstkG zl_strokesG
          rw [zy_weave]
        rw [hc, h17]
        cases zfr (zl_strokesG (nI k) (nI m)) 17 2 () <;> rfl
theorem zT_holds (h : zJ v w) (x p q y : Int32) : zT Ls xs v w t 139 114 [.int x, .int p, .int q, .int y] := by
  rcases h.st with hst | hst
  · exact zT.mk (zK_holds_t x p q y hst) (zM_holds_t (v := zb v 0 (upd (v 0) 10 1)) x p q y (h.lv.trans hst)) rfl (by exact zJ.of 1 (by decide) h.1 rfl rfl)
  · rcases zt_win x 0 9 (by decide) (by decide) with ⟨ho, hw⟩ | ⟨n, h1, h2, rfl, hw⟩
    · exact zT.mk (zK_holds_o x p q y hst ho) (zM_holds_o (v := zb v 0 (upd (v 0) 10 2)) x p q y (h.lv.trans hst) hw) rfl (by exact zJ.of 2 (by decide) h.1 rfl rfl)
    · exact zT.mk (zK_holds_f n h2 p q y hst) (zM_holds_f (v := zb v 0 (upd (v 0) 10 0)) (nI n) p q y (h.lv.trans hst) hw) rfl (by exact zJ.of 0 (by decide) h.1 rfl rfl)
theorem zT_rests (h : zJ v w) (x : Int32) : zT Ls xs v w t 194 176 [.int x] := by
  rcases h.st with hst | hst
  · exact zT.mk (zK_rests_t x hst) (zM_rests_t (v := zb v 0 (upd (v 0) 10 1)) x (h.lv.trans hst)) rfl (by exact zJ.of 1 (by decide) h.1 rfl rfl)
  · rcases zt_win x 0 9 (by decide) (by decide) with ⟨ho, hw⟩ | ⟨n, h1, h2, rfl, hw⟩
    · exact zT.mk (zK_rests_o x hst ho) (zM_rests_o (v := zb v 0 (upd (v 0) 10 2)) x (h.lv.trans hst) hw) rfl (by exact zJ.of 2 (by decide) h.1 rfl rfl)
    · exact zT.mk (zK_rests_f n h2 hst) (zM_rests_f (v := zb v 0 (upd (v 0) 10 0)) (nI n) (h.lv.trans hst) hw) (zy_rests n h2).1 (by exact zJ.of 0 (by decide) h.1 rfl rfl)
theorem zT_rest (h : zJ v w) (x : Int32) : zT Ls xs v w t 193 175 [.int x] := by
  rcases h.st with hst | hst
  · exact zT.mk (zK_rest_t x hst) (zM_rest_t (v := zb v 0 (upd (v 0) 10 1)) x (h.lv.trans hst)) rfl (by exact zJ.of 1 (by decide) h.1 rfl rfl)
  · rcases zt_win x 0 9 (by decide) (by decide) with ⟨ho, hw⟩ | ⟨n, h1, h2, rfl, hw⟩
    · exact zT.mk (zK_rest_o x hst ho) (zM_rest_o (v := zb v 0 (upd (v 0) 10 2)) x (h.lv.trans hst) hw) rfl (by exact zJ.of 2 (by decide) h.1 rfl rfl)
    · exact zT.mk (zK_rest_f n h2 hst) (zM_rest_f (v := zb v 0 (upd (v 0) 10 0)) (nI n) (h.lv.trans hst) hw) (zy_rests n h2).2 (by exact zJ.of 0 (by decide) h.1 rfl rfl)
theorem zy_laid {D Mn Gn : Nat} {ys lo : Int32} {li th la st : Nat → Int32} (hM : Mn ≤ 5) (hs : zI_s D Mn Gn ys lo li th la st) : zr_mlaidMany Gn st  = zr_goodsInBaskets Gn li := by
  unfold zr_mlaidMany zr_goodsInBaskets
  refine zf_congr Gn 0 0 (fun j a _ hj => ?_)
  unfold zl_mlaidManyG zl_goodsInBasketsG
  simp only
  rcases hs.2.2.1 j (by omega) with ⟨h1, h2⟩ | ⟨e, he, h1, h2⟩
  · rw [h1, h2, if_pos (by decide), if_pos (by decide), Int32.add_zero]
  · rw [h1, h2, if_neg (nI_nle (by omega) (by omega)), if_neg (nI_pos (by omega))]
theorem zy_size0 {x : Int32} (ho : x < nI 0 ∨ nI 10 < x) : zr_msize0 x = -1 := by
  unfold zr_msize0 zr_mwithin
  by_cases hx0 : x < 0
  · rw [if_pos hx0, if_pos rfl]
  · rcases ho with ho | ho
    · exact absurd ho hx0
    · rw [if_neg hx0, if_pos (show (9 : Int32) < x from Int32.lt_trans (by decide : (9 : Int32) < nI 10) ho), if_pos rfl]
theorem zT_size (h : zJ v w) (x : Int32) : zT Ls xs v w t 81 125 [.int x] := by
  obtain ⟨_, _, hp, _, h46, _, D, Mn, Gn, Un, ht, hs, hh, hz⟩ := h.1
  rcases zt_win x 0 10 (by decide) (by decide) with ⟨ho, _⟩ | ⟨n, h1, h2, rfl, _⟩
  · have hw2 : x.toInt < 0 ∨ 10 < x.toInt := ho.elim (fun z => Or.inl (Int32.lt_iff_toInt_lt.mp z)) (fun z => Or.inr (Int32.lt_iff_toInt_lt.mp z))
    rcases h.st with hst | hst
    · exact zT.mk (zK_size_d x hw2) (zM_size_t (h.lv.trans hst) x (fun z => by rw [z] at hw2; exact absurd hw2 (by decide))) (zy_size0 ho) (by exact h)
    · exact zT.mk (zK_size_d x hw2) (zM_size_d (h.lv.trans hst) x (fun z => by rw [z] at hw2; exact absurd hw2 (by decide)) (hw2.elim Or.inl (fun z => Or.inr (by omega)))) rfl (by exact h)
  · obtain ⟨k, p, i, _, ⟨hk1, hk2, _, hi1, hi2⟩, _⟩ := hh
    obtain ⟨L, _, hL1, hL2, _⟩ := hp
    rcases (show n = 0 ∨ n = 1 ∨ n = 2 ∨ n = 3 ∨ n = 4 ∨ n = 5 ∨ n = 6 ∨ n = 7 ∨ n = 8 ∨ n = 9 ∨ n = 10 by omega) with rfl | rfl | rfl | rfl | rfl | rfl | rfl | rfl | rfl | rfl | rfl
    · rcases hz with hz | hz
      · exact zT.mk (zK_size_0 ) (zM_size_t (v := v) (h.lv.trans hz.1) 0 (by decide)) (show (0 : Int32) = _ from (hz.2.2.2.2.2.1 : _ = (0 : Int32)).symm) (by exact h)
      · exact zT.mk (zK_size_0 ) (zM_size_0 (v := v) (h.lv.trans hz.1) ) (by obtain ⟨_, x, _, x1, x2⟩ := ht.2.2.1; exact x2.trans x1.symm) (by exact h)
    · rcases hz with hz | hz
      · exact zT.mk (zK_size_1 ) (zM_size_t (v := v) (h.lv.trans hz.1) 1 (by decide)) (show (0 : Int32) = _ from ((by rw [ht.2.1.1, hz.2.1]; rfl) : _ = (0 : Int32)).symm) (by exact h)
      · exact zT.mk (zK_size_1 ) (zM_size_1 (v := v) (h.lv.trans hz.1) ) (ht.2.1.2.1.trans ht.2.1.1.symm) (by exact h)
    · rcases hz with hz | hz
      · exact zT.mk (zK_size_2 ) (zM_size_t (v := v) (h.lv.trans hz.1) 2 (by decide)) (show (0 : Int32) = _ from ((by rw [ht.2.1.2.2.1, hz.2.2.1]; rfl) : _ = (0 : Int32)).symm) (by exact h)
      · exact zT.mk (zK_size_2 ) (zM_size_2 (v := v) (h.lv.trans hz.1) ) (ht.2.1.2.2.2.1.trans ht.2.1.2.2.1.symm) (by exact h)
    · rcases hz with hz | hz
      · exact zT.mk (zK_size_3 ) (zM_size_t (v := v) (h.lv.trans hz.1) 3 (by decide)) (show (0 : Int32) = _ from ((by rw [ht.2.1.2.2.2.2.1, hz.2.2.2.1]; rfl) : _ = (0 : Int32)).symm) (by exact h)
      · exact zT.mk (zK_size_3 ) (zM_size_3 (v := v) (h.lv.trans hz.1) ) (ht.2.1.2.2.2.2.2.1.trans ht.2.1.2.2.2.2.1.symm) (by exact h)
    · rcases hz with hz | hz
      · exact zT.mk (zK_size_4 Gn ht.2.1.2.2.2.2.1 ht.1.2.2.1) (zM_size_t (v := v) (h.lv.trans hz.1) 4 (by decide)) (show (0 : Int32) = _ from ((by rw [hz.2.2.2.1]; rfl) : _ = (0 : Int32)).symm) (by exact h)
      · exact zT.mk (zK_size_4 Gn ht.2.1.2.2.2.2.1 ht.1.2.2.1) (zM_size_4 (v := v) (h.lv.trans hz.1) Gn ht.2.1.2.2.2.2.2.1 ht.1.2.2.1) (zy_laid ht.1.2.1 hs) (by exact h)
    · rcases hz with hz | hz
      · exact zT.mk (zK_size_5 ) (zM_size_t (v := v) (h.lv.trans hz.1) 5 (by decide)) (show (0 : Int32) = _ from ((by rw [ht.2.1.2.2.2.2.2.2.1, hz.2.2.2.2.1]; rfl) : _ = (0 : Int32)).symm) (by exact h)
      · exact zT.mk (zK_size_5 ) (zM_size_5 (v := v) (h.lv.trans hz.1) ) (ht.2.1.2.2.2.2.2.2.2.trans ht.2.1.2.2.2.2.2.2.1.symm) (by exact h)
    · rcases hz with hz | hz
      · exact zT.mk (zK_size_6 ) (zM_size_t (v := v) (h.lv.trans hz.1) 6 (by decide)) (show (0 : Int32) = _ from (hz.2.2.2.2.2.2.1 : _ = (0 : Int32)).symm) (by exact h)
      · exact zT.mk (zK_size_6 ) (zM_size_6 (v := v) (h.lv.trans hz.1) ) ht.2.2.1.1.symm (by exact h)
    · rcases hz with hz | hz
      · exact zT.mk (zK_size_7 ) (zM_size_t (v := v) (h.lv.trans hz.1) 7 (by decide)) (show (0 : Int32) = _ from (hz.2.2.2.2.2.2.2.1 : _ = (0 : Int32)).symm) (by exact h)
      · exact zT.mk (zK_size_7 ) (zM_size_7 (v := v) (h.lv.trans hz.1) ) (by obtain ⟨Y, _, y1, y2⟩ := hs.1; exact y2.trans y1.symm) (by exact h)
    · rcases hz with hz | hz
      · exact zT.mk (zK_size_8 ) (zM_size_t (v := v) (h.lv.trans hz.1) 8 (by decide)) (show (0 : Int32) = _ from ((by rw [hk1, ← hk2]; exact hz.2.2.2.2.2.2.2.2.1) : _ = (0 : Int32)).symm) (by exact h)
      · exact zT.mk (zK_size_8 ) (zM_size_8 (v := v) (h.lv.trans hz.1) ) (hk2.trans hk1.symm) (by exact h)
    · rcases hz with hz | hz
      · exact zT.mk (zK_size_9 ) (zM_size_t (v := v) (h.lv.trans hz.1) 9 (by decide)) (show (0 : Int32) = _ from ((by rw [hi1, ← hi2]; exact hz.2.2.2.2.2.2.2.2.2) : _ = (0 : Int32)).symm) (by exact h)
      · exact zT.mk (zK_size_9 ) (zM_size_9 (v := v) (h.lv.trans hz.1) ) (hi2.trans hi1.symm) (by exact h)
    · exact zT.mk zK_size_10 zM_size_10 (hL2.trans hL1.symm) (by exact h)
end ZTC
