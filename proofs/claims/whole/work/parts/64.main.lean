/-! years of both sides are the same years -/
theorem zy_or0 (a : Int32) : a ||| 0 = a := b_ext (fun i _ => by rw [b_or, b_0, Bool.or_false])
theorem zy_strike {D : Nat} {ev fr r : Nat → Int32} (h : ∀ d, d < D → ev d = r (7 + 2 * d) ∧ fr d = r ((7 + 2 * d) + 1) ∧ (∃ V, 1 ≤ V ∧ V ≤ 9 ∧ r (7 + 2 * d) = nI V) ∧ ∃ F, 1 ≤ F ∧ F ≤ 30 ∧ r ((7 + 2 * d) + 1) = nI F) {Z : Nat} (hZ : Z < 2 ^ 30) :
    zr_strikingIn D ev fr (nI Z) = zr_mstrikersIn D r (nI Z) := by
  unfold zr_strikingIn zr_mstrikersIn
  refine zf_congr D 0 0 (fun j a _ hj => ?_)
  obtain ⟨h1, h2, ⟨V, hV1, hV2, h3⟩, F, hF1, hF2, h4⟩ := h j (by omega)
  unfold zl_strikingInG zl_mstrikersInG
  simp only
  rw [h1, h2, h3, h4, zy_or0]
  by_cases hz : Z < F
  · rw [if_pos (nI_lt hz (by omega)), if_pos (pk_sneg (by omega) hz)]
  · have e : nI Z - nI F = nI (Z - F) := pk_sub (by omega)
    rw [if_neg (nI_nlt (by omega) (by omega)), if_neg (nI_nle (by omega) (by omega)), e, if_neg (nI_pos (by omega))]
theorem zy_W {D Mn Gn Un : Nat} {r20 r21 r22 r23 r24 r25 r26 r27 r28 r29 r30 r31 r71 r73 : Nat → Int32} (ht : zI_t D Mn Gn Un r20 r21 r22 r23 r24 r25 r26 r27 r28 r29 r30 r31 r71 r73) {ys lo : Int32} {li th la row : Nat → Int32} (hs : zI_sw D Mn Gn ys lo li th la row) : zg_W Mn Gn r71 row := by
  obtain ⟨⟨hD, hM, hG, hU⟩, _, _, _, hk, hmk, _, _, _⟩ := ht
  obtain ⟨_, _, hin, hdis, hth, hla⟩ := hs
  have hp : 2 ^ D ≤ 256 := Nat.pow_le_pow_right (by decide) hD
  refine ⟨hM, hG, ?_, ?_, ?_, ?_, ?_⟩
  · intro e he
    rw [← (hmk e he).1]
    exact hk e (by omega)
  · intro e he
    obtain ⟨_, T, hT, h⟩ := hth e he
    exact ⟨T, by omega, h⟩
  · intro e he
    exact (hla e he).2
  · intro a ha
    rcases hin a ha with h | ⟨e, he, h, _⟩
    · exact Or.inl h.1
    · exact Or.inr ⟨e, he, h⟩
  · exact hdis
/-- how a good begins -/
def zy_c0 (row : Nat → Int32) (a : Nat) : zg_C := if bt (row 14) a = true then (false, 0, -2, 0, 0, 0) else zq_0 (if row (10 + a) = 0 then 0 else row (zg_e row a))
theorem zs_zero {n : Nat} {f : Nat → Int32} (h : ∀ a, a < n → f a = 0) : zs n f = 0 := by
  induction n with
  | zero => rfl
  | succ n ih => rw [zs_succ, ih (fun a ha => h a (by omega)), h n (by omega)]; rfl
theorem zy_R0 {X : Prop} {Mn Gn : Nat} {r row : Nat → Int32} (hw : zg_W Mn Gn r row) (ou : Int32) (lt lw oo : Nat → Int32) (hx : X → ou = 0 ∧ (∀ d, d < 8 → lt d = 0) ∧ (∀ a, a < 4 → lw a = -2) ∧ (∀ e, e < 5 → oo e = 0)) : zg_R X Mn Gn r row (zy_c0 row) (row, ou, lt, lw, oo) := by
  obtain ⟨hM, hG, w1, w2, w3, w4, w5⟩ := hw
  have hal : ∀ a, (zy_c0 row a).1 = !(bt (row 14) a) := by
    intro a
    unfold zy_c0
    split
    · rename_i h; rw [h]; rfl
    · rename_i h; rw [Bool.eq_false_iff.mpr h]; rfl
  refine ⟨fun _ _ _ => rfl, ?_, ?_, ?_, ?_, ?_, ?_⟩
  · intro i hi
    show bt (row 14) i = _
    split
    · rw [hal, Bool.not_not]
    · rfl
  · intro a ha h
    rw [hal] at h
    cases hb : bt (row 14) a with
    | false => rfl
    | true => rw [hb] at h; cases h
  · intro a e ha hl he hI
    have e1 : zy_c0 row a = zq_0 (row e) := by
      unfold zy_c0
      rw [if_neg (by rw [hl]; decide), if_neg (by rw [hI]; exact nI_ne0 (by omega) (by omega)), zg_e_of hI he]
    rw [e1]
    exact ⟨rfl, fun x => (hx x).2.2.2 e he⟩
  · intro e he _
    exact ⟨rfl, fun x => (hx x).2.2.2 e he⟩
  · intro a ha
    unfold zy_c0
    split
    · exact ⟨0, by omega, rfl⟩
    · split
      · exact ⟨0, by omega, rfl⟩
      · rename_i h0
        rcases w4 a ha with h | ⟨e, he, h⟩
        · exact absurd h h0
        · rw [zg_e_of h (by omega)]
          exact w3 e he
  · intro x
    obtain ⟨x1, x2, x3, x4⟩ := hx x
    have hlt : ∀ a, (zy_c0 row a).2.2.1 = -2 := by
      intro a
      unfold zy_c0
      split <;> rfl
    refine ⟨?_, ?_, ?_⟩
    · intro a ha
      rw [hlt]
      exact ⟨x3 a (by omega), fun _ => rfl⟩
    · show ou = zs Mn oo
      rw [x1, zs_zero (fun e he => x4 e (by omega))]
    · intro d hd
      show lt d = zs Gn (fun a => if lw a = nI d then r (33 + 2 * a) else 0)
      rw [x2 d hd, zs_zero]
      intro a ha
      rw [if_neg]
      rw [x3 a (by omega)]
      exact (by decide +kernel : ∀ k, k < 8 → ¬ (-2 : Int32) = nI k) d hd
section ZY
variable {D Mn Gn Un : Nat} {r20 r21 r22 r23 r24 r25 r26 r27 r28 r29 r30 r31 r71 r73 : Nat → Int32} {ys lo : Int32} {li th la row : Nat → Int32}
/-- n years: the reference's row beside the class's ways -/
theorem zy_main (ht : zI_t D Mn Gn Un r20 r21 r22 r23 r24 r25 r26 r27 r28 r29 r30 r31 r71 r73) (hs : zI_sw D Mn Gn ys lo li th la row) {slp sl : Nat → Int32} (hsl : ∀ e, e < Mn → slp e = sl e) (X : Prop) (ou : Int32) (lt lw oo : Nat → Int32) (hx : X → ou = 0 ∧ (∀ d, d < 8 → lt d = 0) ∧ (∀ a, a < 4 → lw a = -2) ∧ (∀ e, e < 5 → oo e = 0))
    {n : Nat} (hn : n ≤ 60) {sk : Nat → Int32} (hsk : ∀ j, 1 ≤ j → j ≤ n → sk j = zr_strikingIn D r21 r22 (ys + nI j)) :
    ∃ c : Nat → zg_C, (∀ a, a < Gn → c a = zq_c sk ys n r27 th la r23 sl li lo a) ∧ zg_R X Mn Gn r71 row c (zr_mgo n D Gn r71 slp row ou lt lw oo) ∧ ∃ Y, Y ≤ 999 ∧ ys = nI Y ∧ (zr_mgo n D Gn r71 slp row ou lt lw oo).1 15 = nI (Y + n) := by
  have hw := zy_W ht hs
  obtain ⟨⟨hD, hM, hG, hU⟩, _, _, hda, hk, hmk, hgo, _, _⟩ := ht
  obtain ⟨⟨Y, hY, hys, hr15⟩, hlo, hin, hdis, hth, hla⟩ := hs
  have hgo2 := zg_go hw (slp := slp) (zy_R0 hw ou lt lw oo hx) hD hr15 sk n (by omega) (fun j h1 h2 => by
    rw [hsk j h1 h2, hys, nI_add]
    exact zy_strike hda (by omega))
  refine ⟨_, ?_, hgo2.1, Y, hY, hys, hgo2.2⟩
  intro a ha
  simp only [if_pos ha]
  unfold zq_c zy_c0
  rw [hlo]
  by_cases hl : bt (row 14) a = true
  · rw [if_pos hl, if_pos hl, zg_n_dead]
  · rw [if_neg hl, if_neg hl, hys]
    have e1 : r71 ((33 + 2 * a) + 1) = r27 a := (hgo a ha).1.2.symm
    rcases hin a ha with ⟨h1, h2⟩ | ⟨e, he, h1, h2⟩
    · have hB : li a < 0 := by rw [h2]; decide
      have e2 : ∀ y, zg_P r71 slp row a y = zq_P r23 th sl li a y := by
        intro y
        unfold zg_P zq_P
        rw [if_pos h1, if_pos hB]
      have e3 : zq_l la li a = 0 := by unfold zq_l; rw [if_pos hB]
      rw [e1, e2, e2, if_pos h1, e3]
    · have hB : ¬ li a < 0 := by rw [h2]; exact nI_pos (by omega)
      have h0 : ¬ row (10 + a) = 0 := by rw [h1]; exact nI_ne0 (by omega) (by omega)
      have ee : zq_e li a = e := by unfold zq_e; rw [h2]; exact nI_clamp (by omega)
      have e2 : ∀ y, zg_P r71 slp row a y = zq_P r23 th sl li a y := by
        intro y
        unfold zg_P zq_P
        rw [if_neg h0, if_neg hB, ee, zg_e_of h1 (by omega), ← (hmk e he).1, ← (hth e he).1, hsl e he]
      have e3 : zq_l la li a = row (zg_e row a) := by
        unfold zq_l
        rw [if_neg hB, ee, zg_e_of h1 (by omega), (hla e he).1]
      rw [e1, e2, e2, if_neg h0, e3]
theorem zy_li (hs : zI_sw D Mn Gn ys lo li th la row) : (∀ a, a < Gn → li a < 0 ∨ ∃ e, e < Mn ∧ li a = nI e) := by
  intro a ha
  rcases hs.2.2.1 a ha with ⟨_, h2⟩ | ⟨e, he, _, h2⟩
  · exact Or.inl (by rw [h2]; decide)
  · exact Or.inr ⟨e, he, h2⟩
theorem zy_dis (hM : Mn ≤ 5) (hs : zI_sw D Mn Gn ys lo li th la row) : ∀ a b, a < Gn → b < Gn → a ≠ b → bt lo a = false → bt lo b = false → li a = li b → li a < 0 := by
  intro a b ha hb hab hla hlb h
  rcases hs.2.2.1 a ha with ⟨_, h2⟩ | ⟨e, he, h1, h2⟩
  · rw [h2]; decide
  · rcases hs.2.2.1 b hb with ⟨_, h4⟩ | ⟨f, hf, h3, h4⟩
    · rw [h, h4]; decide
    · have hef : e = f := (nI_eq (by omega) (by omega)).mp (h2.symm.trans (h.trans h4))
      subst hef
      have h5 := hs.2.2.2.1 a b ha hb hab (by rw [← hs.2.1]; exact hla) (by rw [← hs.2.1]; exact hlb) (h1.trans h3.symm)
      rw [h1] at h5
      exact absurd h5 (nI_ne0 (by omega) (by omega))
/-- what both answer behind n years -/
theorem zy_out (ht : zI_t D Mn Gn Un r20 r21 r22 r23 r24 r25 r26 r27 r28 r29 r30 r31 r71 r73) (hs : zI_sw D Mn Gn ys lo li th la row) {c : Nat → zg_C} {q : zg_S} {X : Prop} (hx : X) {z : zq_S} {sk sl : Nat → Int32} {n : Nat} (hc : ∀ a, a < Gn → c a = zq_c sk ys n r27 th la r23 sl li lo a) (hR : zg_R X Mn Gn r71 row c q) (hQ : zq_R Mn Gn r26 la li lo (zq_c sk ys n r27 th la r23 sl li lo) z) :
    zr_mworth Gn r71 q.1 = z.1 ∧ q.1 14 = z.2.1 ∧ (∀ a, a < Gn → q.2.2.2.1 a = z.2.2.2.1 a) ∧ (∀ e, e < Mn → q.1 e = z.2.2.2.2.2.1 e ∧ q.2.2.2.2 e = z.2.2.2.2.2.2.1 e) ∧ q.2.1 = zs Mn z.2.2.2.2.2.2.1 ∧ (∀ d, d < 8 → q.2.2.1 d = zs Gn (fun a => if z.2.2.2.1 a = nI d then r26 a else 0)) := by
  obtain ⟨⟨hD, hM, hG, hU⟩, _, _, hda, hk, hmk, hgo, _, _⟩ := ht
  obtain ⟨⟨Y, hY, hys, hr15⟩, hlo, hin, hdis, hth, hla⟩ := hs
  obtain ⟨h1, h2, h3, h4, h5, h6, h7⟩ := hR
  obtain ⟨h8, h9, h10⟩ := h7 hx
  obtain ⟨q1, q2, q3, q4, q5⟩ := hQ
  have hlw : ∀ a, a < Gn → q.2.2.2.1 a = z.2.2.2.1 a := fun a ha => by rw [(h8 a ha).1, (q3 a ha).2, hc a ha]
  have hmak : ∀ e, e < Mn → q.1 e = z.2.2.2.2.2.1 e ∧ q.2.2.2.2 e = z.2.2.2.2.2.2.1 e := by
    intro e he
    by_cases hex : ∃ a, a < Gn ∧ bt (row 14) a = false ∧ row (10 + a) = nI (e + 1)
    · obtain ⟨a, ha, hl, hI⟩ := hex
      have h11 := h4 a e ha hl (by omega) hI
      have hlia : li a = nI e := by
        rcases hin a ha with ⟨h, _⟩ | ⟨f, hf, h, h'⟩
        · rw [hI] at h; exact absurd h (nI_ne0 (by omega) (by omega))
        · have : f + 1 = e + 1 := (nI_eq (by omega) (by omega)).mp (h.symm.trans hI)
          rw [h', show f = e by omega]
      have h12 := q4 a e ha (by rw [hlo]; exact hl) he hlia
      rw [h11.1, h11.2 hx, h12.2.1, h12.2.2, hc a ha]
      exact ⟨rfl, rfl⟩
    · have h11 := h5 e (by omega) (fun a ha hl hI => hex ⟨a, ha, hl, hI⟩)
      have h12 := q5 e he (fun a ha hl hI => hex ⟨a, ha, by rw [← hlo]; exact hl, by
        rcases hin a ha with ⟨_, h'⟩ | ⟨f, hf, h, h'⟩
        · rw [h'] at hI
          exact absurd hI ((by decide +kernel : ∀ k, k < 5 → ¬ (-2 : Int32) = nI k) e (by omega))
        · have : f = e := (nI_eq (by omega) (by omega)).mp (h'.symm.trans hI)
          rw [h, this]⟩)
      rw [h11.1, h11.2 hx, h12.2.1, h12.2.2, (hla e he).1]
      exact ⟨rfl, rfl⟩
  refine ⟨?_, ?_, hlw, hmak, ?_, ?_⟩
  · have e1 : zr_mworth Gn r71 q.1 = zs Gn (fun a => if (zq_c sk ys n r27 th la r23 sl li lo a).1 = true then r26 a else 0) := by
      unfold zr_mworth zs
      refine zf_congr Gn 0 0 (fun j s _ hj => ?_)
      have hj : j < Gn := by omega
      unfold zl_mworthG
      simp only
      have hb := h2 j (by omega)
      rw [if_pos hj] at hb
      rw [← hc j hj, (hgo j hj).1.1]
      cases hcj : (c j).1 with
      | true =>
        rw [hcj] at hb
        rw [if_pos ((zt_hb0 _ (by omega)).mpr hb), if_pos rfl]
      | false =>
        rw [hcj] at hb
        rw [if_neg (fun z => by rw [zt_hb0 _ (by omega), hb] at z; cases z), if_neg (by decide)]
    rw [e1, q1]
  · apply b_ext
    intro i hi
    rw [h2 i hi, q2 i hi]
    by_cases hiG : i < Gn
    · rw [if_pos hiG, if_pos hiG, hc i hiG]
    · rw [if_neg hiG, if_neg hiG, hlo]
  · rw [h9]
    exact zs_congr (fun e he => (hmak e he).2)
  · intro d hd
    rw [h10 d hd]
    exact zs_congr (fun a ha => by rw [hlw a ha, (hgo a ha).1.1])
end ZY
