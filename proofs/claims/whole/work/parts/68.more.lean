/-! ties: open, nest, slips, drawn, worthIf -/
theorem zt_orf (f : Nat → Int32) : ∀ (n i : Nat) (x : Int32) (d : Nat), bt (zf (fun j a => a ||| f j) n i x) d = true ↔ bt x d = true ∨ ∃ j, i ≤ j ∧ j < i + n ∧ bt (f j) d = true
  | 0, i, x, d => ⟨Or.inl, fun h => h.elim id (fun ⟨j, h1, h2, _⟩ => absurd h2 (by omega))⟩
  | n + 1, i, x, d => by
    rw [zf_succ, zt_orf f n (i + 1), b_or, Bool.or_eq_true]
    constructor
    · rintro ((h | h) | ⟨j, h1, h2, h3⟩)
      · exact Or.inl h
      · exact Or.inr ⟨i, Nat.le_refl _, by omega, h⟩
      · exact Or.inr ⟨j, by omega, by omega, h3⟩
    · rintro (h | ⟨j, h1, h2, h3⟩)
      · exact Or.inl (Or.inl h)
      · by_cases e : j = i
        · exact Or.inl (Or.inr (e ▸ h3))
        · exact Or.inr ⟨j, by omega, by omega, h3⟩
theorem zt_anf (f : Nat → Int32) : ∀ (n i : Nat) (x : Int32) (d : Nat), d < 32 → (bt (zf (fun j a => a &&& (f j ^^^ (-1))) n i x) d = true ↔ bt x d = true ∧ ∀ j, i ≤ j → j < i + n → bt (f j) d = false)
  | 0, i, x, d, _ => ⟨fun h => ⟨h, fun j h1 h2 => absurd h2 (by omega)⟩, fun h => h.1⟩
  | n + 1, i, x, d, hd => by
    rw [zf_succ, zt_anf f n (i + 1) _ d hd, b_and, b_xor, b_m1 d hd]
    constructor
    · rintro ⟨h1, h2⟩
      rw [Bool.and_eq_true] at h1
      refine ⟨h1.1, fun j h3 h4 => ?_⟩
      by_cases e : j = i
      · have h5 := h1.2
        rw [e]
        cases hb : bt (f i) d with
        | false => rfl
        | true => rw [hb] at h5; cases h5
      · exact h2 j (by omega) (by omega)
    · rintro ⟨h1, h2⟩
      refine ⟨?_, fun j h3 h4 => h2 j (by omega) (by omega)⟩
      rw [h1, h2 i (Nat.le_refl _) (by omega)]; rfl
theorem zt_hi {T D d : Nat} (hT : T < 2 ^ D) (hD : D ≤ 8) (hd : D ≤ d) : bt (nI T) d = false := by
  show (BitVec.ofNat 32 T).getLsbD d = false
  rw [BitVec.getLsbD_ofNat]
  have h1 : T < 2 ^ d := Nat.lt_of_lt_of_le hT (Nat.pow_le_pow_right (by decide) hd)
  rw [Nat.testBit_lt_two_pow h1, Bool.and_false]
theorem zt_nI {T d : Nat} (hd : d < 32) : bt (nI T) d = T.testBit d := by
  show (BitVec.ofNat 32 T).getLsbD d = _
  rw [BitVec.getLsbD_ofNat, decide_eq_true hd, Bool.true_and]
section ZY5
variable {D Mn Gn Un : Nat} {r20 r21 r22 r23 r24 r25 r26 r27 r28 r29 r30 r31 r71 r73 : Nat → Int32} {ys lo : Int32} {li th la st : Nat → Int32}
theorem zy_open (ht : zI_t D Mn Gn Un r20 r21 r22 r23 r24 r25 r26 r27 r28 r29 r30 r31 r71 r73) (hs : zI_s D Mn Gn ys lo li th la st) : zr_mopen D Mn Gn r71 st = zr_openK Gn Mn r27 th := by
  have hD := ht.1.1
  have hM := ht.1.2.1
  have hG := ht.1.2.2.1
  have hfe : ∀ d, d < 8 → (zr_mfearers Gn r71 (nI d) = 0 ↔ ¬ ∃ g, g < Gn ∧ bt (r27 g) d = true) := by
    intro d hd
    rw [zy_fear ht hd, zt_z]
    have hb := fun i (hi : i < 32) => zt_bits (G := zl_goodsFearingG r27 (nI d)) (c := fun g => bt (r27 g) d) Gn 0 0 (fun j a _ hj => by
      unfold zl_goodsFearingG
      simp only
      cases hbb : bt (r27 j) d with
      | false => rw [if_pos ((zt_tob _ (by omega)).mpr hbb), if_neg (by decide)]
      | true => rw [if_neg (fun z => by rw [zt_tob _ (by omega), hbb] at z; cases z), if_pos rfl]) (by omega) i hi
    unfold zr_goodsFearing
    constructor
    · rintro h ⟨g, hg, hgb⟩
      have h1 := h g (by omega)
      rw [hb g (by omega), b_0, decide_eq_true (show 0 ≤ g ∧ g < 0 + Gn by omega), hgb] at h1
      cases h1
    · intro h i hi
      rw [hb i hi, b_0, Bool.false_or]
      by_cases hiG : i < Gn
      · have : bt (r27 i) d = false := Bool.eq_false_iff.mpr (fun z => h ⟨i, hiG, z⟩)
        rw [this, Bool.and_false]
      · rw [decide_eq_false (by omega), Bool.false_and]
  have hth : ∀ d, d < 8 → (zr_mthinkers Mn st (nI d) = 0 ↔ ∀ m, m < Mn → bt (th m) d = false) := by
    intro d hd
    rw [zy_think hs hd, zt_z]
    have hb := fun i (hi : i < 32) => zt_bits (G := zl_makersThinkingOfG th (nI d)) (c := fun g => bt (th g) d) Mn 0 0 (fun j a _ hj => by
      unfold zl_makersThinkingOfG
      simp only
      cases hbb : bt (th j) d with
      | false => rw [if_pos ((zt_tob _ (by omega)).mpr hbb), if_neg (by decide)]
      | true => rw [if_neg (fun z => by rw [zt_tob _ (by omega), hbb] at z; cases z), if_pos rfl]) (by omega) i hi
    unfold zr_makersThinkingOf
    constructor
    · intro h m hm
      have h1 := h m (by omega)
      rw [hb m (by omega), b_0, decide_eq_true (show 0 ≤ m ∧ m < 0 + Mn by omega), Bool.false_or, Bool.true_and] at h1
      exact h1
    · intro h i hi
      rw [hb i hi, b_0, Bool.false_or]
      by_cases hiM : i < Mn
      · rw [h i hiM, Bool.and_false]
      · rw [decide_eq_false (by omega), Bool.false_and]
  apply b_ext
  intro i hi
  unfold zr_mopen zr_openK
  rw [zt_bits (c := fun d => !decide (zr_mfearers Gn r71 (nI d) = 0) && decide (zr_mthinkers Mn st (nI d) = 0)) D 0 0 ?_ (by omega) i hi]
  · rw [b_0, Bool.false_or]
    have hR := (zt_anf th Mn 0 (zf (zl_openGG r27) Gn 0 0) i hi).trans (and_congr_left' (zt_orf r27 Gn 0 0 i))
    rw [Bool.eq_iff_iff]
    refine Iff.trans ?_ hR.symm
    rw [Bool.and_eq_true, Bool.and_eq_true, decide_eq_true_iff, Bool.not_eq_true', decide_eq_false_iff_not, decide_eq_true_iff, b_0]
    constructor
    · rintro ⟨h1, h2, h3⟩
      rw [hfe i (by omega)] at h2
      rw [hth i (by omega)] at h3
      obtain ⟨g, hg, hgb⟩ := Classical.not_not.mp h2
      exact ⟨Or.inr ⟨g, Nat.zero_le _, by omega, hgb⟩, fun j _ hj => h3 j (by omega)⟩
    · rintro ⟨h1 | ⟨g, _, hg, hgb⟩, h2⟩
      · cases h1
      · have hiD : i < D := by
          obtain ⟨T, hT, hTe⟩ := (ht.2.2.2.2.2.2.1 g (by omega)).2.2.1
          rw [(ht.2.2.2.2.2.2.1 g (by omega)).1.2, hTe] at hgb
          rcases Nat.lt_or_ge i D with h | h
          · exact h
          · rw [zt_hi hT hD h] at hgb; cases hgb
        refine ⟨by omega, ?_, ?_⟩
        · rw [hfe i (by omega)]
          exact fun z => z ⟨g, by omega, hgb⟩
        · rw [hth i (by omega)]
          exact fun m hm => h2 m (Nat.zero_le _) (by omega)
  · intro j a _ hj
    unfold zl_mopenG
    simp only
    rw [zy_or0]
    by_cases h1 : zr_mfearers Gn r71 (nI j) = 0
    · rw [if_pos h1, if_neg (by rw [decide_eq_true h1]; simp)]
    · rw [if_neg h1]
      by_cases h2 : zr_mthinkers Mn st (nI j) = 0
      · rw [if_pos h2, if_pos (by rw [decide_eq_false h1, decide_eq_true h2]; rfl)]
      · rw [if_neg h2, if_neg (by rw [decide_eq_false h2]; simp)]
/-- bits counted by both -/
theorem zy_bc : ∀ s, s < 256 → zr_bc (nI s) = zr_mones (nI s) := by decide +kernel
theorem zy_bcM : ∀ m, m ≤ 5 → ∀ s, s < 32 → s < 2 ^ m → ¬ nI m + 1 ≤ zr_bc (nI s) := by decide +kernel
theorem zy_tho (hs : zI_s D Mn Gn ys lo li th la st) (hM : Mn ≤ 5) {s : Nat} (hsN : s < 2 ^ Mn) : zf (zl_mnestMG st (nI s)) Mn 0 0 = zr_tho th (nI s) := by
  unfold zr_tho
  rw [show 5 = Mn + (5 - Mn) by omega, zf_add]
  have e1 : zf (zl_thoG th (nI s)) Mn 0 0 = zf (zl_mnestMG st (nI s)) Mn 0 0 := by
    refine zf_congr Mn 0 0 (fun j a _ hj => ?_)
    unfold zl_thoG zl_mnestMG
    simp only
    rw [zy_or0, (hs.2.2.2.2.1 j (by omega)).1]
    cases hb : bt (nI s) j with
    | false => rw [if_pos ((zt_tob _ (by omega)).mpr hb), if_pos ((zt_hb0 _ (by omega)).mpr hb)]
    | true => rw [if_neg (fun z => by rw [zt_tob _ (by omega), hb] at z; cases z), if_neg (fun z => by rw [zt_hb0 _ (by omega), hb] at z; cases z)]
  rw [e1]
  have key : ∀ (n i : Nat) (x : Int32), Mn ≤ i → i + n ≤ 5 → zf (zl_thoG th (nI s)) n i x = x := by
    intro n
    induction n with
    | zero => intro i x _ _; rfl
    | succ n ih =>
      intro i x h1 h2
      rw [zf_succ]
      have e : zl_thoG th (nI s) i x = x := by
        unfold zl_thoG
        simp only
        rw [if_pos ((zt_tob _ (by omega)).mpr (zt_hi hsN (by omega) h1))]
      rw [e]
      exact ih (i + 1) x (by omega) (by omega)
  rw [key _ _ _ (by omega) (by omega)]
theorem zy_nest (ht : zI_t D Mn Gn Un r20 r21 r22 r23 r24 r25 r26 r27 r28 r29 r30 r31 r71 r73) (hs : zI_s D Mn Gn ys lo li th la st) {a : Nat} (ha : a < Gn) {N : Nat} (hN : 2 ^ Mn = N) : zr_mnest Mn N r71 st a = zr_fewM Mn N r27 th a := by
  have hM := ht.1.2.1
  have hN32 : N ≤ 32 := by rw [← hN]; exact Nat.pow_le_pow_right (by decide) hM
  unfold zr_mnest zr_fewM
  have key := zf_rel (G := zl_mnestG Mn r71 st a) (H := zl_fewMG r27 th a) (P := fun _ b s => b = s.1 ∧ ((b = -2 ∧ s.2 = nI Mn + 1) ∨ ∃ x, x < N ∧ b = nI x ∧ s.2 = zr_bc (nI x))) N 0 (-2) (-2, nI Mn + 1) ⟨rfl, Or.inl ⟨rfl, rfl⟩⟩ ?_
  · exact key.1
  · intro j b s _ hj hp
    obtain ⟨be, fw⟩ := s
    obtain ⟨h1, h2⟩ := hp
    have h1 : b = be := h1
    subst h1
    have hjN : j < N := by omega
    unfold zl_mnestG zl_fewMG
    simp only
    rw [zy_tho hs hM (by omega), (ht.2.2.2.2.2.2.1 a ha).1.2]
    by_cases hc : r71 ((33 + (2 * a)) + 1) &&& (zr_tho th (nI j) ^^^ (-1)) = 0
    · rw [if_pos hc, if_pos hc]
      rcases h2 with ⟨h3, h4⟩ | ⟨x, hx, h3, h4⟩
      · have h4 : fw = nI Mn + 1 := h4
        rw [if_pos (by rw [h3]; decide), h4, if_neg (zy_bcM Mn hM j (by omega) (by omega))]
        exact ⟨rfl, Or.inr ⟨j, hjN, rfl, rfl⟩⟩
      · have h4 : fw = zr_bc (nI x) := h4
        rw [if_neg (by rw [h3]; exact nI_pos (by omega)), h4, h3, ← zy_bc x (by omega), ← zy_bc j (by omega)]
        by_cases hle : zr_bc (nI x) ≤ zr_bc (nI j)
        · rw [if_pos hle, if_pos hle]
          exact ⟨rfl, Or.inr ⟨x, hx, rfl, rfl⟩⟩
        · rw [if_neg hle, if_neg hle]
          exact ⟨rfl, Or.inr ⟨j, hjN, rfl, rfl⟩⟩
    · rw [if_neg hc, if_neg hc, ite_self]
      exact ⟨rfl, h2⟩
/-- one maker's slips -/
theorem zy_sl1 : ∀ j, j < 8 → ∀ B, B < 128 → B < 2 ^ j → zr_bc (nI B ||| ((1 : Int32) <<< (nI j &&& 31))) = zr_bc (nI B) + 1 ∧ nI B ||| ((1 : Int32) <<< (nI j &&& 31)) = nI (B + 2 ^ j) := by decide +kernel
theorem zy_slips {e T : Nat} (hD : D ≤ 8) (hT : T < 2 ^ D) (hth : st (5 + e) = nI T) {hu : Int32} (hhu : r71 0 = hu) (dr mn : Int32) (slp : Nat → Int32) (h0 : slp e = 0) :
    ∃ B, B < 2 ^ D ∧ (zr_sl dr (nI T) hu) = (nI B, (zf (zl_mdrDG r71 st e) D 0 (dr, mn, slp)).1) ∧ (zf (zl_mdrDG r71 st e) D 0 (dr, mn, slp)).2.1 = mn + zr_bc (nI B) ∧ (zf (zl_mdrDG r71 st e) D 0 (dr, mn, slp)).2.2 e = nI B ∧ ∀ f, f ≠ e → (zf (zl_mdrDG r71 st e) D 0 (dr, mn, slp)).2.2 f = slp f := by
  have hcl : zr_sl dr (nI T) hu = zf (zl_slG (nI T) hu) D 0 (0, dr) := by
    unfold zr_sl
    show zf (zl_slG (nI T) hu) 8 0 (0, dr) = _
    rw [show 8 = D + (8 - D) by omega, zf_add]
    have key : ∀ (n i : Nat) (s : Int32 × Int32), D ≤ i → i + n ≤ 8 → zf (zl_slG (nI T) hu) n i s = s := by
      intro n
      induction n with
      | zero => intro i s _ _; rfl
      | succ n ih =>
        intro i s h1 h2
        rw [zf_succ]
        have e : zl_slG (nI T) hu i s = s := by
          obtain ⟨b, q⟩ := s
          unfold zl_slG
          simp only
          rw [if_pos ((zt_tob _ (by omega)).mpr (zt_hi hT hD h1))]
        rw [e]
        exact ih (i + 1) s (by omega) (by omega)
    rw [key _ _ _ (by omega) (by omega)]
  rw [hcl]
  have key := zf_rel (G := zl_slG (nI T) hu) (H := zl_mdrDG r71 st e) (P := fun j s q => ∃ B, B < 2 ^ j ∧ s = (nI B, q.1) ∧ q.2.1 = mn + zr_bc (nI B) ∧ q.2.2 e = nI B ∧ ∀ f, f ≠ e → q.2.2 f = slp f) D 0 (0, dr) (dr, mn, slp) ⟨0, by decide, rfl, by rw [show zr_bc (nI 0) = 0 by decide +kernel, Int32.add_zero], h0, fun _ _ => rfl⟩ ?_
  · rw [Nat.zero_add] at key
    exact key
  · intro j s q _ hj hp
    obtain ⟨B, h1, h2, h3, h4, h5⟩ := hp
    obtain ⟨d2, m2, s2⟩ := q
    subst h2
    unfold zl_slG zl_mdrDG
    simp only
    rw [hth]
    have hB128 : B < 128 := Nat.lt_of_lt_of_le h1 (Nat.pow_le_pow_right (by decide) (show j ≤ 7 by omega))
    have hB2 : B < 2 ^ (j + 1) := Nat.lt_of_lt_of_le h1 (Nat.pow_le_pow_right (by decide) (by omega))
    cases hb : bt (nI T) j with
    | false =>
      rw [if_pos ((zt_tob _ (by omega)).mpr hb), if_pos ((zt_hb0 _ (by omega)).mpr hb)]
      exact ⟨B, hB2, rfl, h3, h4, h5⟩
    | true =>
      have hz1 : ¬ zr_mhasBit (nI T) (nI j) = 0 := fun z => by rw [zt_hb0 _ (by omega), hb] at z; cases z
      have hz2 : ¬ ((nI T >>> (nI j &&& 31)) &&& 1) = 0 := fun z => by rw [zt_tob _ (by omega), hb] at z; cases z
      rw [if_neg hz2, if_neg hz1, hhu]
      unfold zr_draw
      by_cases hl : hu ≤ (75 * d2 + 74 - (75 * d2 + 74) / 65537 * 65537) - (75 * d2 + 74 - (75 * d2 + 74) / 65537 * 65537) / 100 * 100
      · rw [if_pos hl, if_neg (Int32.not_lt.mpr hl)]
        exact ⟨B, hB2, rfl, h3, h4, h5⟩
      · rw [if_neg hl, if_pos (Int32.not_le.mp hl)]
        obtain ⟨k1, k2⟩ := zy_sl1 j (by omega) B hB128 h1
        refine ⟨B + 2 ^ j, by rw [Nat.pow_succ]; omega, ?_, ?_, ?_, ?_⟩
        · rw [k2]
        · show m2 + 1 = _
          have h3 : m2 = mn + zr_bc (nI B) := h3
          rw [← k2, k1, h3, Int32.add_assoc]
        · show upd s2 e _ e = _
          have h4 : s2 e = nI B := h4
          rw [pk_us, h4, k2]
        · intro f hf
          show upd s2 e _ f = _
          rw [pk_un hf]
          exact h5 f hf
theorem zy_draw (ht : zI_t D Mn Gn Un r20 r21 r22 r23 r24 r25 r26 r27 r28 r29 r30 r31 r71 r73) (hs : zI_s D Mn Gn ys lo li th la st) (x : Int32) (slp r67 : Nat → Int32) :
    (zr_mdraw D Mn r71 st slp x).1 = (zr_ds Mn th (r20 0) x r67).1 ∧ ∀ e, e < Mn → (zr_mdraw D Mn r71 st slp x).2 e = (zr_ds Mn th (r20 0) x r67).2.2 e := by
  have hM := ht.1.2.1
  obtain ⟨_, hh, _, hh1, hh2⟩ := ht.2.2.1
  have key := zf_rel (G := zl_mdrMG D r71 st) (H := zl_dsG th (r20 0)) (P := fun j q s => q.1 = s.2.1 ∧ q.2.1 = s.1 ∧ (∀ e, e < j → q.2.2 e = s.2.2 e) ∧ ∀ e, j ≤ e → e < 5 → q.2.2 e = 0) Mn 0 (x, 0, zr_mnoSlips slp) (0, x, r67) ⟨rfl, rfl, fun e he => absurd he (Nat.not_lt_zero _), fun e _ he => zr_mnoS_at slp he⟩ ?_
  · rw [Nat.zero_add] at key
    exact ⟨key.2.1, key.2.2.1⟩
  · intro j q s _ hj hp
    obtain ⟨d2, m2, s2⟩ := q
    obtain ⟨c, s6, r7⟩ := s
    obtain ⟨h1, h2, h3, h4⟩ := hp
    have h1 : d2 = s6 := h1
    have h2 : m2 = c := h2
    subst h1
    subst h2
    obtain ⟨hth, T, hT, hTe⟩ := hs.2.2.2.2.1 j (by omega)
    obtain ⟨B, b1, b2, b3, b4, b5⟩ := zy_slips (r71 := r71) (st := st) (e := j) ht.1.1 hT hTe (hh2.trans hh1.symm) d2 m2 s2 (h4 j (Nat.le_refl _) (by omega))
    unfold zl_mdrMG zl_dsG
    simp only
    rw [hth, hTe, b2, pk_us]
    refine ⟨rfl, b3, ?_, ?_⟩
    · intro e he
      show (zf (zl_mdrDG r71 st j) D 0 (d2, m2, s2)).2.2 e = upd r7 j (nI B) e
      by_cases ee : e = j
      · rw [ee, pk_us]; exact b4
      · rw [pk_un ee, b5 e ee]
        exact h3 e (by omega)
    · intro e h5 h6
      show (zf (zl_mdrDG r71 st j) D 0 (d2, m2, s2)).2.2 e = 0
      rw [b5 e (by omega)]
      exact h4 e (by omega) h6
/-- whether a good could lie -/
theorem zy_could (ht : zI_t D Mn Gn Un r20 r21 r22 r23 r24 r25 r26 r27 r28 r29 r30 r31 r71 r73) (hs : zI_s D Mn Gn ys lo li th la st) {a e : Nat} (ha : a < Gn) (he : e < Mn) :
    zr_couldLie Gn li lo (nI a) (nI e) = if bt (st 14) a = true then 0 else (if zr_misTaken Gn st (nI e) (nI a) = 1 then 0 else 1) := by
  have hM := ht.1.2.1
  have hG := ht.1.2.2.1
  unfold zr_couldLie
  rw [hs.2.1]
  by_cases hl : bt (st 14) a = true
  · rw [if_pos hl, if_neg (fun z => by rw [zt_il0 _ (by omega), hl] at z; cases z)]
  · rw [if_neg hl, if_pos ((zt_il0 _ (by omega)).mpr (Bool.eq_false_iff.mpr hl))]
    have hfind := zfr_find (G := zl_misTakenG st (nI e) (nI a)) (S := fun _ => ()) (p := fun j => decide (j ≠ a ∧ st (10 + j) = nI (e + 1) ∧ bt (st 14) j = false)) (f := fun _ => (1 : Int32)) (N := Gn) (fun j hj => by
      unfold zl_misTakenG
      by_cases hja : j = a
      · rw [if_pos (by rw [hja]), if_neg (by rw [decide_eq_false (fun z => z.1 hja)]; decide)]
      · rw [if_neg (fun z => hja ((nI_eq (by omega) (by omega)).mp z)), nI_1]
        by_cases hjm : st (10 + j) = nI (e + 1)
        · rw [if_pos hjm]
          by_cases hjb : bt (st 14) j = false
          · rw [if_pos ((zt_hb0 _ (by omega)).mpr hjb), if_pos (decide_eq_true ⟨hja, hjm, hjb⟩)]
          · rw [if_neg (fun z => hjb ((zt_hb0 _ (by omega)).mp z)), if_neg (by rw [decide_eq_false (fun z => hjb z.2.2)]; decide)]
        · rw [if_neg hjm, if_neg (by rw [decide_eq_false (fun z => hjm z.2.1)]; decide)]) Gn 0 (by omega)
    have hIe : ∀ j, j < Gn → li j = nI e → st (10 + j) = nI (e + 1) := by
      intro j hj hje
      rcases hs.2.2.1 j hj with ⟨_, h2⟩ | ⟨f, hf, h1, h2⟩
      · rw [h2] at hje
        exact absurd hje ((by decide +kernel : ∀ k, k < 5 → ¬ (-2 : Int32) = nI k) e (by omega))
      · rw [h1, (nI_eq (by omega) (by omega)).mp (h2.symm.trans hje)]
    have hIr : ∀ j, j < Gn → st (10 + j) = nI (e + 1) → li j = nI e := by
      intro j hj hje
      rcases hs.2.2.1 j hj with ⟨h1, _⟩ | ⟨f, hf, h1, h2⟩
      · rw [h1] at hje
        exact absurd hje.symm (nI_ne0 (by omega) (by omega))
      · have := (nI_eq (show f + 1 < 2 ^ 31 by omega) (show e + 1 < 2 ^ 31 by omega)).mp (h1.symm.trans hje)
        rw [h2, show f = e by omega]
    have hval : zr_misTaken Gn st (nI e) (nI a) = if (∃ j, j < Gn ∧ j ≠ a ∧ st (10 + j) = nI (e + 1) ∧ bt (st 14) j = false) then 1 else 0 := by
      unfold zr_misTaken
      rcases hfind with ⟨h1, h2⟩ | ⟨k, h1, h2, h3, h4, _⟩
      · rw [h1, if_neg]
        rintro ⟨j, hj, h3⟩
        exact of_decide_eq_false (h2 j (Nat.zero_le _) (by omega)) h3
      · rw [h3, if_pos ⟨k, by omega, of_decide_eq_true h4⟩]
    rw [hval]
    rcases zy_goodIn01 Gn li (nI e) with hq | ⟨q, hq1, hq, hq2⟩
    · rw [if_pos (by rw [hq]; decide), if_neg]
      intro z
      split at z
      · rename_i hex
        obtain ⟨j, hj, h1, h2, h3⟩ := hex
        -- then goodIn finds it
        unfold zr_goodIn at hq
        have hf2 := zfr_find (G := zl_goodInG li (nI e)) (S := fun _ => ()) (p := fun j => decide (li j = nI e)) (f := fun j => nI j) (N := Gn) (fun j _ => by
          unfold zl_goodInG
          by_cases h : li j = nI e
          · rw [if_pos h, if_pos (decide_eq_true h)]
          · rw [if_neg h, if_neg (by rw [decide_eq_false h]; decide)]) Gn 0 (by omega)
        rcases hf2 with ⟨_, k2⟩ | ⟨k, k1, k2, k3, _⟩
        · exact of_decide_eq_false (k2 j (Nat.zero_le _) (by omega)) (hIr j hj h2)
        · rw [k3] at hq
          exact absurd hq (fun z => (by decide +kernel : ∀ k, k < 4 → ¬ nI k = (-2 : Int32)) k (by omega) z)
      · exact absurd z (by decide)
    · rw [hq, if_neg (nI_pos (by omega))]
      have hqI := hIe q hq1 hq2
      by_cases hqa : q = a
      · rw [if_pos (by rw [hqa]), if_neg]
        intro z
        split at z
        · rename_i hex
          obtain ⟨j, hj, h1, h2, h3⟩ := hex
          have h5 := hs.2.2.2.1 j a hj ha h1 (h2.trans (by rw [← hqa]; exact hqI.symm))
          rw [h2] at h5
          exact nI_ne0 (by omega) (by omega) h5
        · exact absurd z (by decide)
      · rw [if_neg (fun z => hqa ((nI_eq (by omega) (by omega)).mp z))]
        by_cases hql : bt (st 14) q = false
        · rw [if_pos ((zt_il0 _ (by omega)).mpr hql), if_pos (by rw [if_pos ⟨q, hq1, hqa, hqI, hql⟩])]
        · rw [if_neg (fun z => hql ((zt_il0 _ (by omega)).mp z)), if_neg]
          intro z
          split at z
          · rename_i hex
            obtain ⟨j, hj, h1, h2, h3⟩ := hex
            by_cases hjq : j = q
            · rw [hjq] at h3; exact hql h3
            · have h5 := hs.2.2.2.1 j q hj hq1 hjq (h2.trans hqI.symm)
              rw [h2] at h5
              exact nI_ne0 (by omega) (by omega) h5
          · exact absurd z (by decide)
end ZY5
section ZTD
variable {Ls : Nat} {xs : Nat → Int32} {v : Nat → Nat → Int32} {w : Nat → Nat → Int64} {t : zk_H}
theorem zT_open (h : zJ v w) : zT Ls xs v w t 145 171 [] := by
  rcases h.st with hst | hst
  · exact zT.mk (zK_open_t hst) (zM_open_t (v := zb v 0 (upd (v 0) 10 1)) (h.lv.trans hst)) rfl (by exact zJ.of 1 (by decide) h.1 rfl rfl)
  · obtain ⟨_, _, _, _, h46, _, D, Mn, Gn, Un, ht, hs, _, hz⟩ := h.1
    exact zT.mk (zK_open_f hst Gn ht.2.1.2.2.2.2.1 ht.1.2.2.1 Mn ht.2.1.2.2.1 ht.1.2.1) (zM_open_f (v := zb v 0 (upd (v 0) 10 0)) (h.lv.trans hst) D ht.2.1.2.1 ht.1.1 Mn ht.2.1.2.2.2.1 ht.1.2.1 Gn ht.2.1.2.2.2.2.2.1 ht.1.2.2.1) (zy_open ht hs) (by exact zJ.of 0 (by decide) h.1 rfl rfl)
theorem zT_nest (h : zJ v w) (x : Int32) : zT Ls xs v w t 143 169 [.int x] := by
  obtain ⟨_, _, _, _, h46, _, D, Mn, Gn, Un, ht, hs, _, hz⟩ := h.1
  rcases zt_isX h.st (show Gn ≤ 8 by have := ht.1.2.2.1; omega) x with ⟨hx, hg⟩ | ⟨hst, a, ha, rfl, hg⟩
  · rw [← ht.2.1.2.2.2.2.1] at hx
    rw [← h.lv, ← ht.2.1.2.2.2.2.2.1] at hg
    exact zT.mk (zK_nest_t x hx) (zM_nest_t (v := zb v 0 (upd (v 0) 10 1)) x hg) rfl (by exact zJ.of 1 (by decide) h.1 rfl rfl)
  · rw [← h.lv, ← ht.2.1.2.2.2.2.2.1] at hg
    have hN2 : 2 ^ Mn ≤ 256 := Nat.pow_le_pow_right (by decide) (show Mn ≤ 8 by have := ht.1.2.1; omega)
    exact zT.mk (zK_nest_f hst Gn ht.2.1.2.2.2.2.1 ht.1.2.2.1 a ha Mn ht.2.1.2.2.1 ht.1.2.1 (2 ^ Mn) rfl hN2) (zM_nest_f (v := zb v 0 (upd (v 0) 10 0)) a (by have := ht.1.2.2.1; omega) hg Mn ht.2.1.2.2.2.1 ht.1.2.1 (2 ^ Mn) rfl hN2) (zy_nest ht hs ha rfl) (by exact zJ.of 0 (by decide) h.1 rfl rfl)
theorem zT_slips (h : zJ v w) (x : Int32) : zT Ls xs v w t 195 177 [.int x] := by
  rcases h.st with hst | hst
  · exact zT.mk (zK_slips_t x hst) (zM_slips_t (v := zb v 0 (upd (v 0) 10 1)) x (h.lv.trans hst)) rfl (by exact zJ.of 1 (by decide) h.1 rfl rfl)
  · obtain ⟨_, _, _, _, h46, _, D, Mn, Gn, Un, ht, hs, _, hz⟩ := h.1
    rcases zt_win x 0 65536 (by decide) (by decide) with ⟨ho, hw⟩ | ⟨n, h1, h2, rfl, hw⟩
    · exact zT.mk (zK_slips_o x hst ho) (zM_slips_o (v := zb v 0 (upd (v 0) 10 2)) x (h.lv.trans hst) hw) rfl (by exact zJ.of 2 (by decide) h.1 rfl rfl)
    · exact zT.mk (zK_slips_f n h2 hst Mn ht.2.1.2.2.1 ht.1.2.1) (zM_slips_f (v := zb (zb (zb v 0 (upd (v 0) 10 0)) 64 (upd (v 64) 6 ((zr_ds Mn (v 34) (v 20 0) (nI n) (v 67)).2.1))) 67 ((zr_ds Mn (v 34) (v 20 0) (nI n) (v 67)).2.2)) (nI n) (h.lv.trans hst) hw D ht.2.1.2.1 ht.1.1 Mn ht.2.1.2.2.2.1 ht.1.2.1) (zy_draw ht hs (nI n) (v 79) (v 67)).1 (by exact zJ.of 0 (by decide) h.1 rfl rfl)
theorem zT_drawn (h : zJ v w) (x y : Int32) : zT Ls xs v w t 230 241 [.int x, .int y] := by
  rcases h.st with hst | hst
  · rcases zt_win x 0 65536 (by decide) (by decide) with ⟨ho, hw⟩ | ⟨n, h1, h2, rfl, hw⟩
    · exact zT.mk (zK_drawn_t x y hst) (zM_drawn_t1 (v := zb v 0 (upd (v 0) 10 1)) x y (h.lv.trans hst) hw) rfl (by exact zJ.of 1 (by decide) h.1 rfl rfl)
    · rcases zt_win y 0 60 (by decide) (by decide) with ⟨ho, hw2⟩ | ⟨m, h3, h4, rfl, hw2⟩
      · exact zT.mk (zK_drawn_t _ y hst) (zM_drawn_t2 (v := zb v 0 (upd (v 0) 10 1)) _ y (h.lv.trans hst) hw hw2) rfl (by exact zJ.of 1 (by decide) h.1 rfl rfl)
      · exact zT.mk (zK_drawn_t _ _ hst) (zM_drawn_t3 (v := zb v 0 (upd (v 0) 10 1)) _ _ (h.lv.trans hst) hw hw2) rfl (by exact zJ.of 1 (by decide) h.1 rfl rfl)
  · obtain ⟨_, _, _, _, h46, _, D, Mn, Gn, Un, ht, hs, _, hz⟩ := h.1
    rcases zt_win x 0 65536 (by decide) (by decide) with ⟨ho, hw⟩ | ⟨n, h1, h2, rfl, hw⟩
    · exact zT.mk (zK_drawn_o x y hst ho) (zM_drawn_o1 (v := zb v 0 (upd (v 0) 10 2)) x y (h.lv.trans hst) hw) rfl (by exact zJ.of 2 (by decide) h.1 rfl rfl)
    · rcases zt_win y 0 60 (by decide) (by decide) with ⟨ho, hw2⟩ | ⟨m, h3, h4, rfl, hw2⟩
      · exact zT.mk (zK_drawn_p n h2 y hst ho) (zM_drawn_o2 (v := zb v 0 (upd (v 0) 10 2)) _ y (h.lv.trans hst) hw hw2) rfl (by exact zJ.of 2 (by decide) h.1 rfl rfl)
      · have hd := zy_draw ht hs (nI n) (zr_mbegin (v 75) (v 76) (v 80) (v 81) (v 82) (v 79)).2.2.2.2.2 (v 67)
        have hs2 : zI_s D Mn Gn (v 32 0) (v 32 1) (v 33) (v 34) (v 35) (zr_mbegin (v 75) (v 76) (v 80) (v 81) (v 82) (v 79)).1 := zI_s_of ht.1.2.1 ht.1.2.2.1 hs (fun i hi => zr_mbegin_row _ _ _ _ _ _ hi)
        have hx := zr_mbegin_x (v 75) (v 76) (v 80) (v 81) (v 82) (v 79)
        obtain ⟨c, hc, hR, _⟩ := zy_main ht hs2.w (slp := (zr_mdraw D Mn (v 71) (v 75) (zr_mbegin (v 75) (v 76) (v 80) (v 81) (v 82) (v 79)).2.2.2.2.2 (nI n)).2) (sl := (zr_ds Mn (v 34) (v 20 0) (nI n) (v 67)).2.2) hd.2 True (zr_mbegin (v 75) (v 76) (v 80) (v 81) (v 82) (v 79)).2.1 (zr_mbegin (v 75) (v 76) (v 80) (v 81) (v 82) (v 79)).2.2.1 (zr_mbegin (v 75) (v 76) (v 80) (v 81) (v 82) (v 79)).2.2.2.1 (zr_mbegin (v 75) (v 76) (v 80) (v 81) (v 82) (v 79)).2.2.2.2.1 (fun _ => hx) h4 (sk := zf (zl_aimG D (v 21) (v 22) (v 32 0)) m 1 (v 45)) (fun j a1 a2 => zl_aim_at D (v 21) (v 22) (v 32 0) m 1 (v 45) j a1 (by omega))
        have hQ := zq_goods (sk := zf (zl_aimG D (v 21) (v 22) (v 32 0)) m 1 (v 45)) (yg := v 32 0) (sp := m) (fe := v 27) (wr := v 26) (th := v 34) (la := v 35) (kd := v 23) (slp := (zr_ds Mn (v 34) (v 20 0) (nI n) (v 67)).2.2) (li := v 33) (lo := v 32 1) ht.1.2.2.1 (zy_li hs.w) ht.1.2.1 (zy_dis ht.1.2.1 hs.w) (v 47) (v 48) (v 49) (v 50) (v 51) (v 44 3) (v 44 4) (v 44 5) (v 44 6) (v 44 7)
        have ho := zy_out ht hs2.w (X := True) trivial hc hR hQ
        exact zT.mk (zK_drawn_f n h2 hst D ht.2.1.1 ht.1.1 Mn ht.2.1.2.2.1 ht.1.2.1 Gn ht.2.1.2.2.2.2.1 ht.1.2.2.1 (zy_li5 ht.1.2.1 hs) ht.2.2.2.2.1 m h4) (zM_drawn_f (v := (zvR_slip (zb (zb (zb v 0 (upd (v 0) 10 0)) 64 (upd (v 64) 6 ((zr_ds Mn (v 34) (v 20 0) (nI n) (v 67)).2.1))) 67 ((zr_ds Mn (v 34) (v 20 0) (nI n) (v 67)).2.2)) D Mn Gn m)) (nI n) (h.lv.trans hst) hw m h4 hw2 D ht.2.1.2.1 ht.1.1 Gn ht.2.1.2.2.2.2.2.1 ht.1.2.2.1 (zy_ev ht) (zy_lie ht hs) Mn ht.2.1.2.2.2.1 ht.1.2.1) ho.1 (by exact zJ.of 0 (by decide) h.1 rfl rfl)
theorem zy_tk0 (Gn : Nat) (st : Nat → Int32) (m g : Int32) (h : ¬ zr_misTaken Gn st m g = 1) : zr_misTaken Gn st m g = 0 := by
  unfold zr_misTaken at h ⊢
  have key : ∀ (n i : Nat), (∃ s, zfr (zl_misTakenG st m g) n i () = .inl s) ∨ zfr (zl_misTakenG st m g) n i () = .inr 1 := by
    intro n
    induction n with
    | zero => intro i; exact Or.inl ⟨(), rfl⟩
    | succ n ih =>
      intro i
      unfold zfr
      have hG : zl_misTakenG st m g i () = .inl () ∨ zl_misTakenG st m g i () = .inr 1 := by
        unfold zl_misTakenG
        repeat' split
        all_goals first | exact Or.inl rfl | exact Or.inr rfl
      rcases hG with hG | hG
      · rw [hG]; exact ih (i + 1)
      · rw [hG]; exact Or.inr rfl
  rcases key Gn 0 with ⟨s, hk⟩ | hk
  · rw [hk]
  · rw [hk] at h; exact absurd rfl h
theorem zy_tried {D Mn Gn Un : Nat} {r20 r21 r22 r23 r24 r25 r26 r27 r28 r29 r30 r31 r71 r73 : Nat → Int32} {ys lo : Int32} {li th la st li2 th2 la2 st2 : Nat → Int32} (ht : zI_t D Mn Gn Un r20 r21 r22 r23 r24 r25 r26 r27 r28 r29 r30 r31 r71 r73) (hs : zI_s D Mn Gn ys lo li th la st) {a e : Nat} (ha : a < Gn) (he : e < Mn) (ha4 : a < 4) (h1 : ∀ b, b < 4 → li2 b = if b = a then nI e else li b) (h2 : ∀ m, m < 5 → th2 m = th m) (h3 : ∀ m, m < 5 → la2 m = la m) (h4 : ∀ i, i < 16 → st2 i = st i) (hl : ¬ bt (st 14) a = true) (htk : zr_misTaken Gn st (nI e) (nI a) = 0) :
    zI_sw D Mn Gn ys lo li2 th2 la2 (upd st2 (10 + a) (nI (e + 1))) := by
  have hM := ht.1.2.1
  have hG := ht.1.2.2.1
  obtain ⟨⟨Y, k1, k2, k3⟩, k4, k5, k6, k7, k8⟩ := hs
  refine ⟨⟨Y, k1, k2, ?_⟩, ?_, ?_, ?_, ?_, ?_⟩
  · rw [pk_un (by omega), h4 _ (by omega)]; exact k3
  · rw [pk_un (by omega), h4 _ (by omega)]; exact k4
  · intro g hg
    rw [h1 g (by omega)]
    by_cases hga : g = a
    · subst hga
      rw [pk_us, if_pos rfl]
      exact Or.inr ⟨e, he, rfl, rfl⟩
    · rw [pk_un (by omega), h4 _ (by omega), if_neg hga]
      exact k5 g hg
  · have hno : ∀ b, b < Gn → b ≠ a → bt (st 14) b = false → ¬ st (10 + b) = nI (e + 1) := by
      intro b hb hba hbl hbe
      have hf := zfr_find (G := zl_misTakenG st (nI e) (nI a)) (S := fun _ => ()) (p := fun j => decide (j ≠ a ∧ st (10 + j) = nI (e + 1) ∧ bt (st 14) j = false)) (f := fun _ => (1 : Int32)) (N := Gn) (fun j hj => by
        unfold zl_misTakenG
        by_cases hja : j = a
        · rw [if_pos (by rw [hja]), if_neg (by rw [decide_eq_false (fun z => z.1 hja)]; decide)]
        · rw [if_neg (fun z => hja ((nI_eq (by omega) (by omega)).mp z)), nI_1]
          by_cases hjm : st (10 + j) = nI (e + 1)
          · rw [if_pos hjm]
            by_cases hjb : bt (st 14) j = false
            · rw [if_pos ((zt_hb0 _ (by omega)).mpr hjb), if_pos (decide_eq_true ⟨hja, hjm, hjb⟩)]
            · rw [if_neg (fun z => hjb ((zt_hb0 _ (by omega)).mp z)), if_neg (by rw [decide_eq_false (fun z => hjb z.2.2)]; decide)]
          · rw [if_neg hjm, if_neg (by rw [decide_eq_false (fun z => hjm z.2.1)]; decide)]) Gn 0 (by omega)
      rcases hf with ⟨_, q2⟩ | ⟨k, q1, q2, q3, _⟩
      · exact of_decide_eq_false (q2 b (Nat.zero_le _) (by omega)) ⟨hba, hbe, hbl⟩
      · unfold zr_misTaken at htk
        rw [q3] at htk
        exact absurd htk (by decide)
    intro b c hb hc hbc hlb hlc hbe
    rw [pk_un (show 14 ≠ 10 + a by omega), h4 _ (by omega)] at hlb hlc
    by_cases hba : b = a
    · subst hba
      have hcb : 10 + c ≠ 10 + b := by omega
      rw [pk_us, pk_un hcb, h4 _ (by omega)] at hbe
      exact absurd hbe.symm (hno c hc (Ne.symm hbc) hlc)
    · have hb2 : 10 + b ≠ 10 + a := by omega
      by_cases hca : c = a
      · subst hca
        rw [pk_un hb2, pk_us, h4 _ (by omega)] at hbe
        exact absurd hbe (hno b hb hba hlb)
      · have hc2 : 10 + c ≠ 10 + a := by omega
        rw [pk_un hb2, pk_un hc2, h4 _ (by omega), h4 _ (by omega)] at hbe
        rw [pk_un hb2, h4 _ (by omega)]
        exact k6 b c hb hc hbc hbe
  · intro m hm
    rw [pk_un (by omega), h4 _ (by omega), h2 m (by omega)]
    exact k7 m hm
  · intro m hm
    rw [pk_un (by omega), h4 _ (by omega), h3 m (by omega)]
    exact k8 m hm
theorem zT_worthIf (h : zJ v w) (x y z : Int32) : zT Ls xs v w t 252 248 [.int x, .int y, .int z] := by
  obtain ⟨_, _, _, _, h46, _, D, Mn, Gn, Un, ht, hs, _, hz⟩ := h.1
  rcases zt_isX h.st (show Gn ≤ 8 by have := ht.1.2.2.1; omega) x with ⟨hx, hg⟩ | ⟨hst, a, ha, rfl, hg⟩
  · rw [← ht.2.1.2.2.2.2.1] at hx
    rw [← h.lv, ← ht.2.1.2.2.2.2.2.1] at hg
    exact zT.mk (zK_worthIf_t x hx y z) (zM_worthIf_t (v := zb v 0 (upd (v 0) 10 1)) x y z hg) rfl (by exact zJ.of 1 (by decide) h.1 rfl rfl)
  · rw [← h.lv, ← ht.2.1.2.2.2.2.2.1] at hg
    rcases zt_isX h.st (show Mn ≤ 8 by have := ht.1.2.1; omega) y with ⟨hx, hg2⟩ | ⟨_, e, he, rfl, hg2⟩
    · rw [← ht.2.1.2.2.1] at hx
      rw [← h.lv, ← ht.2.1.2.2.2.1] at hg2
      exact zT.mk (zK_worthIf_m hst Gn ht.2.1.2.2.2.2.1 ht.1.2.2.1 a ha y hx z) (zM_worthIf_m (v := zb v 0 (upd (v 0) 10 1)) (nI a) y z hg hg2) rfl (by exact zJ.of 1 (by decide) h.1 rfl rfl)
    · rw [← h.lv, ← ht.2.1.2.2.2.1] at hg2
      rcases zt_ah z with ⟨ho, hw⟩ | ⟨m, hm, rfl⟩
      · exact zT.mk (zK_worthIf_o hst Gn ht.2.1.2.2.2.2.1 ht.1.2.2.1 a ha Mn ht.2.1.2.2.1 ht.1.2.1 e he z ho) (zM_worthIf_o (v := zb v 0 (upd (v 0) 10 2)) (nI a) (nI e) z hg hg2 hw) rfl (by exact zJ.of 2 (by decide) h.1 rfl rfl)
      · have hcl := zy_could ht hs ha he
        have ha4 : a < 4 := (by have := ht.1.2.2.1; omega)
        have he5 : e < 5 := (by have := ht.1.2.1; omega)
        by_cases hl : bt (v 75 14) a = true
        · rw [if_pos hl] at hcl
          exact zT.mk (zK_worthIf_5 hst Gn ht.2.1.2.2.2.2.1 ht.1.2.2.1 a ha Mn ht.2.1.2.2.1 ht.1.2.1 e he m hm hcl) (zM_worthIf_5a (v := zb v 0 (upd (v 0) 10 5)) a e ha4 he5 hg hg2 m hm (by show zr_mhasBit (v 75 14) (nI a) = 1; rw [zt_hb _ (by omega), if_pos hl])) rfl (by exact zJ.of 5 (by decide) h.1 rfl rfl)
        · rw [if_neg hl] at hcl
          have hlo : zr_mhasBit (v 75 14) (nI a) = 0 := (zt_hb0 _ (by omega)).mpr (Bool.eq_false_iff.mpr hl)
          by_cases htk : zr_misTaken Gn (v 75) (nI e) (nI a) = 1
          · rw [if_pos htk] at hcl
            exact zT.mk (zK_worthIf_5 hst Gn ht.2.1.2.2.2.2.1 ht.1.2.2.1 a ha Mn ht.2.1.2.2.1 ht.1.2.1 e he m hm hcl) (zM_worthIf_5b (v := zb v 0 (upd (v 0) 10 5)) a e ha4 he5 hg hg2 m hm Gn ht.2.1.2.2.2.2.2.1 ht.1.2.2.1 hlo htk) rfl (by exact zJ.of 5 (by decide) h.1 rfl rfl)
          · rw [if_neg htk] at hcl
            have htk0 : zr_misTaken Gn (v 75) (nI e) (nI a) = 0 := zy_tk0 _ _ _ _ htk
            have hcp3 : ∀ b, b < 4 → upd (va_cpy (v 33) (v 37) 0 0 4) a (nI e) b = if b = a then nI e else v 33 b := by
              intro b hb
              by_cases hba : b = a
              · rw [hba, pk_us, if_pos rfl]
              · rw [pk_un hba, if_neg hba, pk_cpy_in (Nat.zero_le _) (by omega)]; congr 1; omega
            have hs3 : zI_sw D Mn Gn (v 32 0) (v 32 1) (upd (va_cpy (v 33) (v 37) 0 0 4) a (nI e)) (va_cpy (v 34) (v 38) 0 0 5) (va_cpy (v 35) (v 39) 0 0 5) (upd (zr_mbegin (v 75) (v 76) (v 80) (v 81) (v 82) (v 79)).1 (10 + a) (nI (e + 1))) := zy_tried ht hs ha he ha4 hcp3 (fun m hm => by rw [pk_cpy_in (Nat.zero_le _) (by omega)]; congr 1; omega) (fun m hm => by rw [pk_cpy_in (Nat.zero_le _) (by omega)]; congr 1; omega) (fun i hi => zr_mbegin_row _ _ _ _ _ _ hi) hl htk0
            have hx := zr_mbegin_x (v 75) (v 76) (v 80) (v 81) (v 82) (v 79)
            obtain ⟨c, hc, hR, _⟩ := zy_main ht hs3 (slp := (zr_mbegin (v 75) (v 76) (v 80) (v 81) (v 82) (v 79)).2.2.2.2.2) (sl := v 46) (fun e he => by rw [zr_mbegin_s _ _ _ _ _ _ (by have := ht.1.2.1; omega), h46 e (by have := ht.1.2.1; omega)]) True (zr_mbegin (v 75) (v 76) (v 80) (v 81) (v 82) (v 79)).2.1 (zr_mbegin (v 75) (v 76) (v 80) (v 81) (v 82) (v 79)).2.2.1 (zr_mbegin (v 75) (v 76) (v 80) (v 81) (v 82) (v 79)).2.2.2.1 (zr_mbegin (v 75) (v 76) (v 80) (v 81) (v 82) (v 79)).2.2.2.2.1 (fun _ => hx) hm (sk := zf (zl_aimG D (v 21) (v 22) (v 32 0)) m 1 (v 45)) (fun j a1 a2 => zl_aim_at D (v 21) (v 22) (v 32 0) m 1 (v 45) j a1 (by omega))
            have hQ := zq_goods (sk := zf (zl_aimG D (v 21) (v 22) (v 32 0)) m 1 (v 45)) (yg := v 32 0) (sp := m) (fe := v 27) (wr := v 26) (th := va_cpy (v 34) (v 38) 0 0 5) (la := va_cpy (v 35) (v 39) 0 0 5) (kd := v 23) (slp := v 46) (li := upd (va_cpy (v 33) (v 37) 0 0 4) a (nI e)) (lo := v 32 1) ht.1.2.2.1 (zy_li hs3) ht.1.2.1 (zy_dis ht.1.2.1 hs3) (v 47) (v 48) (v 49) (v 50) (v 51) (v 44 3) (v 44 4) (v 44 5) (v 44 6) (v 44 7)
            have ho := zy_out ht hs3 (X := True) trivial hc hR hQ
            exact zT.mk (zK_worthIf_f hst D ht.2.1.1 ht.1.1 Gn ht.2.1.2.2.2.2.1 ht.1.2.2.1 a ha Mn ht.2.1.2.2.1 ht.1.2.1 e he ht.2.2.2.2.1 m hm hcl (fun b hb => (zy_li hs3 b hb).elim Or.inl (fun q => by obtain ⟨f, hf, q2⟩ := q; exact Or.inr ⟨f, by have := ht.1.2.1; omega, q2⟩))) (zM_worthIf_f (v := (zvR_tried (zb (zb (zb (zb (zb v 0 (upd (v 0) 10 0)) 36 (upd (upd (v 36) 0 (v 32 0)) 1 (v 32 1))) 37 (upd (va_cpy (v 33) (v 37) 0 0 4) a (nI e))) 38 (va_cpy (v 34) (v 38) 0 0 5)) 39 (va_cpy (v 35) (v 39) 0 0 5)) D Mn Gn m)) a e ha4 he5 hg hg2 m hm D ht.2.1.2.1 ht.1.1 Gn ht.2.1.2.2.2.2.2.1 ht.1.2.2.1 (zy_ev ht) (zy_lie ht hs) hlo htk0) ho.1 (by exact zJ.of 0 (by decide) h.1 rfl rfl)
end ZTD
