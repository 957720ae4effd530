/-! ties: lay, layAt -/
theorem zfr_rel {σ τ ρ π : Type} {G : Nat → σ → σ ⊕ ρ} {H : Nat → τ → τ ⊕ π} {P : Nat → σ → τ → Prop} {Q : ρ → π → Prop} : ∀ (n i : Nat) (s : σ) (t : τ), P i s t → (∀ j s t, i ≤ j → j < i + n → P j s t → (∃ s' t', G j s = .inl s' ∧ H j t = .inl t' ∧ P (j + 1) s' t') ∨ ∃ r q, G j s = .inr r ∧ H j t = .inr q ∧ Q r q) →
    (∃ s' t', zfr G n i s = .inl s' ∧ zfr H n i t = .inl t' ∧ P (i + n) s' t') ∨ ∃ r q, zfr G n i s = .inr r ∧ zfr H n i t = .inr q ∧ Q r q
  | 0, i, s, t, h, _ => Or.inl ⟨s, t, rfl, rfl, h⟩
  | n + 1, i, s, t, h, hst => by
    rcases hst i s t (Nat.le_refl _) (by omega) h with ⟨s', t', h1, h2, h3⟩ | ⟨r, q, h1, h2, h3⟩
    · have ih := zfr_rel n (i + 1) s' t' h3 (fun j s t a b c => hst j s t (by omega) (by omega) c)
      rw [show i + 1 + n = i + (n + 1) by omega] at ih
      have e1 : zfr G (n + 1) i s = zfr G n (i + 1) s' := by show (match G i s with | .inl s' => zfr G n (i + 1) s' | .inr r => .inr r) = _; rw [h1]
      have e2 : zfr H (n + 1) i t = zfr H n (i + 1) t' := by show (match H i t with | .inl s' => zfr H n (i + 1) s' | .inr r => .inr r) = _; rw [h2]
      rw [e1, e2]
      exact ih
    · refine Or.inr ⟨r, q, ?_, ?_, h3⟩
      · show (match G i s with | .inl s' => zfr G n (i + 1) s' | .inr r => .inr r) = _; rw [h1]
      · show (match H i t with | .inl s' => zfr H n (i + 1) s' | .inr r => .inr r) = _; rw [h2]
theorem zl_spread_at (Mn Gn l : Nat) (pl : Nat → Int32) : ∀ n, n ≤ Gn → (zf (zl_spreadG Mn Gn) n 0 (l, pl)).1 = l / (Mn + 1) ^ n ∧ ∀ k, k < n → (zf (zl_spreadG Mn Gn) n 0 (l, pl)).2 (Gn - 1 - k) = nI (l / (Mn + 1) ^ k % (Mn + 1))
  | 0, _ => ⟨by rw [Nat.pow_zero, Nat.div_one]; rfl, fun k hk => absurd hk (by omega)⟩
  | n + 1, hn => by
    obtain ⟨h1, h2⟩ := zl_spread_at Mn Gn l pl n (by omega)
    rw [zf_last, Nat.zero_add]
    generalize hz : zf (zl_spreadG Mn Gn) n 0 (l, pl) = z at h1 h2 ⊢
    obtain ⟨l2, p2⟩ := z
    have h1 : l2 = l / (Mn + 1) ^ n := h1
    refine ⟨?_, ?_⟩
    · show l2 / (Mn + 1) = _
      rw [h1, Nat.div_div_eq_div_mul, Nat.pow_succ]
    · intro k hk
      show upd p2 (Gn - n - 1) (nI (l2 % (Mn + 1))) (Gn - 1 - k) = _
      by_cases hkn : k = n
      · subst hkn
        rw [show Gn - 1 - k = Gn - k - 1 by omega, pk_us, h1]
      · rw [pk_un (by omega)]
        exact h2 k (by omega)
theorem zr_spread_at (Mn Gn l : Nat) (pl : Nat → Int32) {a : Nat} (ha : a < Gn) : zr_spread Mn Gn l pl a = nI (zr_mdig Mn Gn l a) := by
  have h := (zl_spread_at Mn Gn l pl Gn (Nat.le_refl _)).2 (Gn - 1 - a) (by omega)
  rw [show Gn - 1 - (Gn - 1 - a) = a by omega] at h
  exact h
theorem zr_mdig_le (Mn Gn l a : Nat) : zr_mdig Mn Gn l a ≤ Mn := by
  have := Nat.mod_lt (l / (Mn + 1) ^ (Gn - 1 - a)) (show 0 < Mn + 1 by omega)
  unfold zr_mdig; omega
theorem zl_mlayI_at (Mn Gn : Nat) (st : Nat → Int32) (l : Nat) (row : Nat → Int32) : ∀ n, n ≤ 4 → ∀ i, zf (zl_mlayIG Mn Gn st l) n 0 row i = if 10 ≤ i ∧ i < 10 + n ∧ bt (st 14) (i - 10) = false then nI (zr_mdig Mn Gn l (i - 10)) else row i
  | 0, _, i => by rw [if_neg (by omega)]; rfl
  | n + 1, hn, i => by
    have ih := zl_mlayI_at Mn Gn st l row n (by omega) i
    rw [zf_last, Nat.zero_add]
    unfold zl_mlayIG at ih ⊢
    simp only at ih ⊢
    by_cases hb : bt (st 14) n = false
    · rw [if_pos ((zt_hb0 _ (by omega)).mpr hb)]
      by_cases hi : i = 10 + n
      · subst hi
        rw [pk_us, show 10 + n - 10 = n by omega, if_pos ⟨by omega, by omega, hb⟩]
      · rw [pk_un hi, ih]
        by_cases hc : 10 ≤ i ∧ i < 10 + n ∧ bt (st 14) (i - 10) = false
        · rw [if_pos hc, if_pos ⟨hc.1, by omega, hc.2.2⟩]
        · rw [if_neg hc, if_neg (fun z => hc ⟨z.1, by omega, z.2.2⟩)]
    · rw [if_neg (fun z => hb ((zt_hb0 _ (by omega)).mp z)), ih]
      by_cases hc : 10 ≤ i ∧ i < 10 + n ∧ bt (st 14) (i - 10) = false
      · rw [if_pos hc, if_pos ⟨hc.1, by omega, hc.2.2⟩]
      · rw [if_neg hc, if_neg (fun z => ?_)]
        by_cases hi : i = 10 + n
        · rw [hi, show 10 + n - 10 = n by omega] at z
          exact hb z.2.2
        · exact hc ⟨z.1, by omega, z.2.2⟩
/-- a row: both take it, and the class sums; or neither -/
theorem zy_row {Mn Gn : Nat} (hM : Mn ≤ 5) (hG : Gn ≤ 4) (l : Nat) {pl : Nat → Int32} (hpl : ∀ a, a < Gn → pl a = nI (zr_mdig Mn Gn l a)) (st sf wr : Nat → Int32) :
    (zr_misRow Mn Gn st l = 1 ∧ zr_wop Gn pl sf wr (st 14) = zs Gn (fun a => if bt (sf a) (zr_mdig Mn Gn l a) = true then wr a else 0) ∧ (∀ a, a < Gn → 0 < zr_mdig Mn Gn l a → bt (st 14) a = false) ∧ (∀ a b, a < Gn → b < Gn → a ≠ b → zr_mdig Mn Gn l a = zr_mdig Mn Gn l b → zr_mdig Mn Gn l a = 0)) ∨ (zr_misRow Mn Gn st l = 0 ∧ zr_wop Gn pl sf wr (st 14) = -1) := by
  have key := zfr_rel (G := zl_misRowG Mn Gn st l) (H := zl_wopG pl sf wr (st 14)) (Q := fun (r q : Int32) => r = 0 ∧ q = -1) (P := fun j tk s => tk = s.1 ∧ s.2 = zs j (fun a => if bt (sf a) (zr_mdig Mn Gn l a) = true then wr a else 0) ∧ (∀ a, a < j → bt tk (zr_mdig Mn Gn l a) = true) ∧ (∀ a, a < j → 0 < zr_mdig Mn Gn l a → bt (st 14) a = false) ∧ (∀ a b, a < j → b < j → a ≠ b → zr_mdig Mn Gn l a = zr_mdig Mn Gn l b → zr_mdig Mn Gn l a = 0)) Gn 0 (0 : Int32) ((0 : Int32), (0 : Int32)) ⟨rfl, rfl, fun a h => absurd h (by omega), fun a h => absurd h (by omega), fun a b h => absurd h (by omega)⟩ ?_
  · unfold zr_misRow zr_wop
    rcases key with ⟨s', t', h1, h2, h3⟩ | ⟨r, q, h1, h2, h3⟩
    · rw [h1, h2]
      rw [Nat.zero_add] at h3
      exact Or.inl ⟨rfl, h3.2.1, h3.2.2.2.1, h3.2.2.2.2⟩
    · rw [h1, h2]
      exact Or.inr h3
  · intro j tk s _ hj hp
    obtain ⟨us, su⟩ := s
    obtain ⟨p1, p2, p3, p4, p5⟩ := hp
    have p1 : tk = us := p1
    have hsu : su = zs j (fun a => if bt (sf a) (zr_mdig Mn Gn l a) = true then wr a else 0) := p2
    subst p1
    have hjG : j < Gn := by omega
    have hd5 := zr_mdig_le Mn Gn l j
    unfold zl_misRowG zl_wopG
    simp only
    rw [hpl j hjG]
    obtain ⟨d, hd⟩ : ∃ d, d = zr_mdig Mn Gn l j := ⟨_, rfl⟩
    rw [← hd] at hd5 ⊢
    have hsum : (if ((sf j >>> (nI d &&& 31)) &&& 1) = 0 then (Sum.inl (tk ||| ((1 : Int32) <<< (nI d &&& 31)), su) : (Int32 × Int32) ⊕ Int32) else .inl (tk ||| ((1 : Int32) <<< (nI d &&& 31)), su + wr j)) = .inl (tk ||| ((1 : Int32) <<< (nI d &&& 31)), zs (j + 1) (fun a => if bt (sf a) (zr_mdig Mn Gn l a) = true then wr a else 0)) := by
      rw [zs_succ, hsu, ← hd]
      by_cases hb : bt (sf j) d = true
      · rw [if_neg (fun z => by rw [zt_tob _ (by omega), hb] at z; cases z), if_pos hb]
      · rw [if_pos ((zt_tob _ (by omega)).mpr (Bool.eq_false_iff.mpr hb)), if_neg hb, Int32.add_zero]
    have hnx : (d = 0 ∨ (bt (st 14) j = false ∧ bt tk d = false)) → (tk ||| ((1 : Int32) <<< (nI d &&& 31)) = tk ||| ((1 : Int32) <<< (nI d &&& 31)) ∧ zs (j + 1) (fun a => if bt (sf a) (zr_mdig Mn Gn l a) = true then wr a else 0) = zs (j + 1) (fun a => if bt (sf a) (zr_mdig Mn Gn l a) = true then wr a else 0) ∧ (∀ a, a < j + 1 → bt (tk ||| ((1 : Int32) <<< (nI d &&& 31))) (zr_mdig Mn Gn l a) = true) ∧ (∀ a, a < j + 1 → 0 < zr_mdig Mn Gn l a → bt (st 14) a = false) ∧ (∀ a b, a < j + 1 → b < j + 1 → a ≠ b → zr_mdig Mn Gn l a = zr_mdig Mn Gn l b → zr_mdig Mn Gn l a = 0)) := by
      intro hok
      refine ⟨rfl, rfl, ?_, ?_, ?_⟩
      · intro a ha
        have hda := zr_mdig_le Mn Gn l a
        rw [zt_or1 _ (by omega) (by omega)]
        by_cases haj : a = j
        · subst haj
          rw [← hd, decide_eq_true rfl, Bool.or_true]
        · rw [p3 a (by omega), Bool.true_or]
      · intro a ha h0
        by_cases haj : a = j
        · subst haj
          rcases hok with h | h
          · omega
          · exact h.1
        · exact p4 a (by omega) h0
      · have half : ∀ a, a < j → zr_mdig Mn Gn l a = d → d = 0 := by
          intro a ha hda
          rcases hok with h | h
          · exact h
          · have := p3 a ha
            rw [hda, h.2] at this
            cases this
        intro a b ha hb hab heq
        by_cases haj : a = j
        · subst haj
          rw [← hd]
          exact half b (by omega) (by rw [hd, heq])
        · by_cases hbj : b = j
          · subst hbj
            rw [heq, ← hd]
            exact half a (by omega) (by rw [hd, heq])
          · exact p5 a b (by omega) (by omega) hab heq
    by_cases h0 : d = 0
    · have hle : nI d ≤ 0 := by rw [h0]; decide
      rw [if_pos hle, if_pos hle, hsum]
      exact Or.inl ⟨_, _, rfl, rfl, hnx (Or.inl h0)⟩
    · have hle : ¬ nI d ≤ 0 := (by decide +kernel : ∀ k, k < 6 → ¬ k = 0 → ¬ nI k ≤ 0) d (by omega) h0
      rw [if_neg hle, if_neg hle]
      by_cases hl : bt (st 14) j = false
      · rw [if_pos ((zt_hb0 _ (by omega)).mpr hl), if_pos ((zt_il0 _ (by omega)).mpr hl)]
        by_cases ht : bt tk d = false
        · rw [if_pos ((zt_hb0 _ (by omega)).mpr ht), if_pos ((zt_tob _ (by omega)).mpr ht), hsum]
          exact Or.inl ⟨_, _, rfl, rfl, hnx (Or.inr ⟨hl, ht⟩)⟩
        · rw [if_neg (fun z => ht ((zt_hb0 _ (by omega)).mp z)), if_neg (fun z => ht ((zt_tob _ (by omega)).mp z))]
          exact Or.inr ⟨_, _, rfl, rfl, rfl, rfl⟩
      · rw [if_neg (fun z => hl ((zt_hb0 _ (by omega)).mp z)), if_neg (fun z => hl ((zt_il0 _ (by omega)).mp z)), ite_self]
        exact Or.inr ⟨_, _, rfl, rfl, rfl, rfl⟩
theorem zl_safe_1 (sk : Nat → Int32) (yg : Int32) (sp : Nat) (fe th la kd : Nat → Int32) (a j : Nat) (s : Int32 × Int32 × Int32 × Int32 × Int32 × Int32) : (zl_safeG sk yg sp fe th la kd a j s).1 = if (zr_follow sk yg sp (fe a) (la j) ((zr_heldOff (kd j) (th j) 1) &&& (0 ^^^ (-1))) ((zr_heldOff (kd j) (th j) 2) &&& (0 ^^^ (-1)))).1 = 0 then s.1 else s.1 ||| ((1 : Int32) <<< ((nI (j + 1)) &&& 31)) := by
  obtain ⟨b, w3, w4, w5, w6, w7⟩ := s
  unfold zl_safeG
  show (if _ then _ else _ : Int32 × _).1 = _
  split <;> rfl
theorem zl_safe_at (sk : Nat → Int32) (yg : Int32) (sp : Nat) (fe th la kd : Nat → Int32) (a : Nat) (s : Int32 × Int32 × Int32 × Int32 × Int32 × Int32) : ∀ n, n ≤ 5 → ∀ d, d < 32 → bt (zf (zl_safeG sk yg sp fe th la kd a) n 0 s).1 d = (bt s.1 d || decide (∃ m, m < n ∧ d = m + 1 ∧ ¬ (zr_follow sk yg sp (fe a) (la m) ((zr_heldOff (kd m) (th m) 1) &&& (0 ^^^ (-1))) ((zr_heldOff (kd m) (th m) 2) &&& (0 ^^^ (-1)))).1 = 0))
  | 0, _, d, hd => by rw [decide_eq_false (fun z => by obtain ⟨m, h, _⟩ := z; omega), Bool.or_false]; rfl
  | n + 1, hn, d, hd => by
    have ih := zl_safe_at sk yg sp fe th la kd a s n (by omega) d hd
    rw [zf_last, Nat.zero_add, zl_safe_1]
    by_cases hf : (zr_follow sk yg sp (fe a) (la n) ((zr_heldOff (kd n) (th n) 1) &&& (0 ^^^ (-1))) ((zr_heldOff (kd n) (th n) 2) &&& (0 ^^^ (-1)))).1 = 0
    · rw [if_pos hf, ih]
      congr 1
      apply decide_eq_decide.mpr
      constructor
      · rintro ⟨m, h1, h2, h3⟩
        exact ⟨m, by omega, h2, h3⟩
      · rintro ⟨m, h1, h2, h3⟩
        by_cases hmn : m = n
        · subst hmn; exact absurd hf h3
        · exact ⟨m, by omega, h2, h3⟩
    · rw [if_neg hf, zt_or1 _ (by omega) hd, ih, Bool.or_assoc]
      congr 1
      rw [← Bool.decide_or]
      apply decide_eq_decide.mpr
      constructor
      · rintro (⟨m, h1, h2, h3⟩ | h)
        · exact ⟨m, by omega, h2, h3⟩
        · exact ⟨n, by omega, h, hf⟩
      · rintro ⟨m, h1, h2, h3⟩
        by_cases hmn : m = n
        · subst hmn; exact Or.inr h2
        · exact Or.inl ⟨m, by omega, h2, h3⟩
theorem zr_safe_at (Mn : Nat) (hM : Mn ≤ 5) (sk : Nat → Int32) (yg : Int32) (sp : Nat) (fe th la kd : Nat → Int32) (a : Nat) (w3 w4 w5 w6 w7 : Int32) {d : Nat} (hd : d < 32) : bt (zr_safe Mn sk yg sp fe th la kd a w3 w4 w5 w6 w7).1 d = decide ((d = 0 ∧ ¬ (zr_follow sk yg sp (fe a) 0 0 0).1 = 0) ∨ ∃ m, m < Mn ∧ d = m + 1 ∧ ¬ (zr_follow sk yg sp (fe a) (la m) ((zr_heldOff (kd m) (th m) 1) &&& (0 ^^^ (-1))) ((zr_heldOff (kd m) (th m) 2) &&& (0 ^^^ (-1)))).1 = 0) := by
  unfold zr_safe
  by_cases hf : (zr_follow sk yg sp (fe a) 0 0 0).1 = 0
  · rw [if_pos hf]
    show bt (zf (zl_safeG sk yg sp fe th la kd a) Mn 0 (0, _)).1 d = _
    rw [zl_safe_at _ _ _ _ _ _ _ _ _ Mn hM d hd, b_0, Bool.false_or]
    apply decide_eq_decide.mpr
    constructor
    · exact Or.inr
    · rintro (h | h)
      · exact absurd hf h.2
      · exact h
  · rw [if_neg hf]
    show bt (zf (zl_safeG sk yg sp fe th la kd a) Mn 0 (1, _)).1 d = _
    rw [zl_safe_at _ _ _ _ _ _ _ _ _ Mn hM d hd, zt_1 hd, ← Bool.decide_or]
    apply decide_eq_decide.mpr
    constructor
    · rintro (h | h)
      · exact Or.inl ⟨h, hf⟩
      · exact Or.inr h
    · rintro (h | h)
      · exact Or.inl h.1
      · exact Or.inr h
theorem zl_plA_1 (Mn : Nat) (sk : Nat → Int32) (yg : Int32) (sp : Nat) (fe th la kd : Nat → Int32) (lo mk : Int32) (j : Nat) (s : Int32 × (Nat → Int32) × Int32 × Int32 × Int32 × Int32 × Int32) : ∃ w3 w4 w5 w6 w7, (zl_plAG Mn sk yg sp fe th la kd lo mk j s).2.1 = upd s.2.1 j (if zr_isLost lo (nI j) = 0 then (zr_safe Mn sk yg sp fe th la kd j w3 w4 w5 w6 w7).1 else 0) := by
  obtain ⟨q, sf, w3, w4, w5, w6, w7⟩ := s
  refine ⟨w3, w4, w5, w6, w7, ?_⟩
  unfold zl_plAG
  by_cases hl : zr_isLost lo (nI j) = 0
  · simp only [if_pos hl]
  · simp only [if_neg hl]
theorem zl_plA_at (Mn : Nat) (sk : Nat → Int32) (yg : Int32) (sp : Nat) (fe th la kd : Nat → Int32) (lo mk : Int32) (s : Int32 × (Nat → Int32) × Int32 × Int32 × Int32 × Int32 × Int32) : ∀ n a, a < n → ∃ w3 w4 w5 w6 w7, (zf (zl_plAG Mn sk yg sp fe th la kd lo mk) n 0 s).2.1 a = if zr_isLost lo (nI a) = 0 then (zr_safe Mn sk yg sp fe th la kd a w3 w4 w5 w6 w7).1 else 0
  | 0, a, h => absurd h (by omega)
  | n + 1, a, h => by
    rw [zf_last, Nat.zero_add]
    obtain ⟨w3, w4, w5, w6, w7, e⟩ := zl_plA_1 Mn sk yg sp fe th la kd lo mk n (zf (zl_plAG Mn sk yg sp fe th la kd lo mk) n 0 s)
    rw [e]
    by_cases han : a = n
    · subst han
      rw [pk_us]
      exact ⟨w3, w4, w5, w6, w7, rfl⟩
    · rw [pk_un han]
      exact zl_plA_at Mn sk yg sp fe th la kd lo mk s n a (by omega)
theorem zl_mlay_1 (n D Mn Gn : Nat) (r st : Nat → Int32) (j be : Nat) (wl : Int32) (row : Nat → Int32) (ou : Int32) (lt lw oo slp : Nat → Int32) :
    (zl_mlayG n D Mn Gn r st j (be, wl, row, ou, lt, lw, oo, slp)).1 = (if zr_misRow Mn Gn st j = 0 then be else if wl < zr_mworth Gn r (zr_mgo n D Gn r (zr_mbegin st row lt lw oo slp).2.2.2.2.2 (zf (zl_mlayIG Mn Gn st j) Gn 0 (zr_mbegin st row lt lw oo slp).1) (zr_mbegin st row lt lw oo slp).2.1 (zr_mbegin st row lt lw oo slp).2.2.1 (zr_mbegin st row lt lw oo slp).2.2.2.1 (zr_mbegin st row lt lw oo slp).2.2.2.2.1).1 then j else be) ∧ (zl_mlayG n D Mn Gn r st j (be, wl, row, ou, lt, lw, oo, slp)).2.1 = (if zr_misRow Mn Gn st j = 0 then wl else if wl < zr_mworth Gn r (zr_mgo n D Gn r (zr_mbegin st row lt lw oo slp).2.2.2.2.2 (zf (zl_mlayIG Mn Gn st j) Gn 0 (zr_mbegin st row lt lw oo slp).1) (zr_mbegin st row lt lw oo slp).2.1 (zr_mbegin st row lt lw oo slp).2.2.1 (zr_mbegin st row lt lw oo slp).2.2.2.1 (zr_mbegin st row lt lw oo slp).2.2.2.2.1).1 then zr_mworth Gn r (zr_mgo n D Gn r (zr_mbegin st row lt lw oo slp).2.2.2.2.2 (zf (zl_mlayIG Mn Gn st j) Gn 0 (zr_mbegin st row lt lw oo slp).1) (zr_mbegin st row lt lw oo slp).2.1 (zr_mbegin st row lt lw oo slp).2.2.1 (zr_mbegin st row lt lw oo slp).2.2.2.1 (zr_mbegin st row lt lw oo slp).2.2.2.2.1).1 else wl) := by
  unfold zl_mlayG
  show (if _ then _ else _ : Nat × _).1 = _ ∧ (if _ then _ else _ : Nat × Int32 × _).2.1 = _
  split
  · exact ⟨rfl, rfl⟩
  · split <;> exact ⟨rfl, rfl⟩
section ZY8
variable {D Mn Gn Un : Nat} {r20 r21 r22 r23 r24 r25 r26 r27 r28 r29 r30 r31 r71 r73 : Nat → Int32} {ys lo : Int32} {li th la st : Nat → Int32}
theorem zy_laidR (ht : zI_t D Mn Gn Un r20 r21 r22 r23 r24 r25 r26 r27 r28 r29 r30 r31 r71 r73) (hs : zI_s D Mn Gn ys lo li th la st) (l : Nat) {row2 : Nat → Int32} (h2 : ∀ i, i < 16 → row2 i = st i) (hz : ∀ a, a < Gn → 0 < zr_mdig Mn Gn l a → bt (st 14) a = false) (hdis : ∀ a b, a < Gn → b < Gn → a ≠ b → zr_mdig Mn Gn l a = zr_mdig Mn Gn l b → zr_mdig Mn Gn l a = 0) :
    zI_sw D Mn Gn ys lo (fun a => if bt (st 14) a = false then (if zr_mdig Mn Gn l a = 0 then -2 else nI (zr_mdig Mn Gn l a - 1)) else li a) th la (zf (zl_mlayIG Mn Gn st l) Gn 0 row2) := by
  have hM := ht.1.2.1
  have hG := ht.1.2.2.1
  obtain ⟨⟨Y, k1, k2, k3⟩, k4, k5, k6, k7, k8⟩ := hs
  have hat := zl_mlayI_at Mn Gn st l row2 Gn hG
  refine ⟨⟨Y, k1, k2, ?_⟩, ?_, ?_, ?_, ?_, ?_⟩
  · rw [hat, if_neg (by omega), h2 15 (by omega)]; exact k3
  · rw [hat, if_neg (by omega), h2 14 (by omega)]; exact k4
  · intro g hg
    have hd := zr_mdig_le Mn Gn l g
    simp only
    rw [hat, show 10 + g - 10 = g by omega]
    by_cases hb : bt (st 14) g = false
    · rw [if_pos ⟨by omega, by omega, hb⟩, if_pos hb]
      by_cases h0 : zr_mdig Mn Gn l g = 0
      · rw [if_pos h0, h0]
        exact Or.inl ⟨rfl, rfl⟩
      · rw [if_neg h0]
        exact Or.inr ⟨zr_mdig Mn Gn l g - 1, by omega, by rw [show zr_mdig Mn Gn l g - 1 + 1 = zr_mdig Mn Gn l g by omega], rfl⟩
    · rw [if_neg (fun z => hb z.2.2), if_neg hb, h2 _ (by omega)]
      exact k5 g hg
  · intro a b ha hb hab la2 lb2
    rw [hat 14, if_neg (by omega), h2 14 (by omega)] at la2 lb2
    rw [hat, hat, show 10 + a - 10 = a by omega, show 10 + b - 10 = b by omega, if_pos ⟨by omega, by omega, la2⟩, if_pos ⟨by omega, by omega, lb2⟩]
    intro he
    have hda := zr_mdig_le Mn Gn l a
    have hdb := zr_mdig_le Mn Gn l b
    rw [hdis a b ha hb hab ((nI_eq (by omega) (by omega)).mp he)]
    rfl
  · intro m hm
    rw [hat, if_neg (by omega), h2 _ (by omega)]
    exact k7 m hm
  · intro m hm
    rw [hat, if_neg (by omega), h2 _ (by omega)]
    exact k8 m hm
theorem zy_lay (ht : zI_t D Mn Gn Un r20 r21 r22 r23 r24 r25 r26 r27 r28 r29 r30 r31 r71 r73) (hs : zI_s D Mn Gn ys lo li th la st) {n Rn : Nat} (hn : n ≤ 60) (hR : (Mn + 1) ^ Gn = Rn) (r54 r55 r56 row : Nat → Int32) (ou : Int32) (lt lw oo slp : Nat → Int32) (w3 w4 w5 w6 w7 : Int32) :
    ∃ l, l ≤ Rn ∧ (zr_mlay n Rn D Mn Gn r71 st row ou lt lw oo slp).1 = nI l ∧ (zr_plan D Mn Gn n r21 r22 r27 th la r23 r26 ys lo r54 r55 r56 w3 w4 w5 w6 w7).1 = nI l ∧ (zr_mlay n Rn D Mn Gn r71 st row ou lt lw oo slp).2.1 = (zr_plan D Mn Gn n r21 r22 r27 th la r23 r26 ys lo r54 r55 r56 w3 w4 w5 w6 w7).2.1 := by
  have hM := ht.1.2.1
  have hG := ht.1.2.2.1
  unfold zr_mlay zr_plan
  simp only
  rw [hR]
  obtain ⟨sf, hsf⟩ : ∃ sf, sf = (zf (zl_plAG Mn (zf (zl_aimG D r21 r22 ys) n 1 r54) ys n r27 th la r23 lo (nI Mn)) Gn 0 (1, r55, w3, w4, w5, w6, w7)).2.1 := ⟨_, rfl⟩
  rw [← hsf]
  have hsb : ∀ a, a < Gn → ∀ d, d < 32 → bt (sf a) d = (if bt (st 14) a = false then decide ((d = 0 ∧ ¬ (zr_follow (zf (zl_aimG D r21 r22 ys) n 1 r54) ys n (r27 a) 0 0 0).1 = 0) ∨ ∃ m, m < Mn ∧ d = m + 1 ∧ ¬ (zr_follow (zf (zl_aimG D r21 r22 ys) n 1 r54) ys n (r27 a) (la m) ((zr_heldOff (r23 m) (th m) 1) &&& (0 ^^^ (-1))) ((zr_heldOff (r23 m) (th m) 2) &&& (0 ^^^ (-1)))).1 = 0) else false) := by
    intro a ha d hd
    obtain ⟨x3, x4, x5, x6, x7, e⟩ := zl_plA_at Mn (zf (zl_aimG D r21 r22 ys) n 1 r54) ys n r27 th la r23 lo (nI Mn) (1, r55, w3, w4, w5, w6, w7) Gn a ha
    rw [hsf, e, hs.2.1]
    by_cases hb : bt (st 14) a = false
    · rw [if_pos ((zt_il0 _ (by omega)).mpr hb), if_pos hb, zr_safe_at Mn hM _ _ _ _ _ _ _ _ _ _ _ _ _ hd]
    · rw [if_neg (fun z => hb ((zt_il0 _ (by omega)).mp z)), if_neg hb, b_0]
  clear hsf
  have key := zf_rel (G := zl_mlayG n D Mn Gn r71 st) (H := zl_plBG Mn Gn sf r26 lo) (P := fun j s t => s.1 ≤ j ∧ t.1 = nI s.1 ∧ s.2.1 = t.2.1 ∧ (-1 : Int32) ≤ t.2.1) Rn 0 (0, -1, row, ou, lt, lw, oo, slp) (0, -1, r56) ⟨Nat.le_refl _, rfl, rfl, show (-1 : Int32) ≤ -1 by decide⟩ ?_
  · exact ⟨_, by have := key.1; rw [Nat.zero_add] at this; exact this, rfl, key.2.1, key.2.2.1⟩
  · intro j s t _ hj hp
    obtain ⟨be, wl, row, ou, lt, lw, oo, slp⟩ := s
    obtain ⟨br, bw, pl⟩ := t
    obtain ⟨p0, p1, p2, p3⟩ := hp
    have p0 : be ≤ j := p0
    have p1 : br = nI be := p1
    have p2 : wl = bw := p2
    have p3 : (-1 : Int32) ≤ bw := p3
    subst p1
    subst p2
    obtain ⟨m1, m2⟩ := zl_mlay_1 n D Mn Gn r71 st j be wl row ou lt lw oo slp
    rw [m1, m2]
    unfold zl_plBG
    simp only
    rw [hs.2.1]
    rcases zy_row hM hG j (pl := zr_spread Mn Gn j pl) (fun a ha => zr_spread_at Mn Gn j pl ha) st sf r26 with ⟨q1, q2, q3, q4⟩ | ⟨q1, q2⟩
    · rw [q1, q2]
      rw [if_neg (show ¬ (1 : Int32) = 0 by decide), if_neg (show ¬ (1 : Int32) = 0 by decide)]
      have hs2 := zy_laidR ht hs j (row2 := (zr_mbegin st row lt lw oo slp).1) (fun i hi => zr_mbegin_row _ _ _ _ _ _ hi) q3 q4
      have hwo : zr_mworth Gn r71 (zr_mgo n D Gn r71 (zr_mbegin st row lt lw oo slp).2.2.2.2.2 (zf (zl_mlayIG Mn Gn st j) Gn 0 (zr_mbegin st row lt lw oo slp).1) (zr_mbegin st row lt lw oo slp).2.1 (zr_mbegin st row lt lw oo slp).2.2.1 (zr_mbegin st row lt lw oo slp).2.2.2.1 (zr_mbegin st row lt lw oo slp).2.2.2.2.1).1 = zs Gn (fun a => if bt (sf a) (zr_mdig Mn Gn j a) = true then r26 a else 0) := by
        unfold zr_mworth zs
        refine zf_congr Gn 0 0 (fun a s _ ha => ?_)
        have ha : a < Gn := by omega
        have hda := zr_mdig_le Mn Gn j a
        unfold zl_mworthG
        simp only
        have hg := zy_gone ht hs2 (fun f hf => zr_mbegin_s st row lt lw oo slp hf) hn r54 (zr_mbegin st row lt lw oo slp).2.1 (zr_mbegin st row lt lw oo slp).2.2.1 (zr_mbegin st row lt lw oo slp).2.2.2.1 (zr_mbegin st row lt lw oo slp).2.2.2.2.1 ha
        have hq : (zq_c (zf (zl_aimG D r21 r22 ys) n 1 r54) ys n r27 th la r23 (fun _ => 0) (fun a => if bt (st 14) a = false then (if zr_mdig Mn Gn j a = 0 then -2 else nI (zr_mdig Mn Gn j a - 1)) else li a) lo a).1 = bt (sf a) (zr_mdig Mn Gn j a) := by
          rw [hsb a ha _ (by omega)]
          by_cases hb : bt (st 14) a = false
          · rw [if_pos hb, zq_c_at (by rw [hs.2.1]; exact hb)]
            unfold zq_l zq_P zq_e
            simp only [if_pos hb]
            apply decide_eq_decide.mpr
            by_cases h0 : zr_mdig Mn Gn j a = 0
            · rw [if_pos h0, if_pos (show (-2 : Int32) < 0 by decide), if_pos (show (-2 : Int32) < 0 by decide), if_pos (show (-2 : Int32) < 0 by decide)]
              constructor
              · exact fun h => Or.inl ⟨h0, h⟩
              · rintro (h | ⟨m, _, h, _⟩)
                · exact h.2
                · omega
            · rw [if_neg h0, if_neg (show ¬ nI (zr_mdig Mn Gn j a - 1) < 0 from nI_pos (by omega)), if_neg (show ¬ nI (zr_mdig Mn Gn j a - 1) < 0 from nI_pos (by omega)), if_neg (show ¬ nI (zr_mdig Mn Gn j a - 1) < 0 from nI_pos (by omega)), nI_clamp (show zr_mdig Mn Gn j a - 1 < 2 ^ 31 by omega)]
              constructor
              · exact fun h => Or.inr ⟨zr_mdig Mn Gn j a - 1, by omega, by omega, h⟩
              · rintro (h | ⟨m, _, h, h'⟩)
                · exact absurd h.1 h0
                · rw [show zr_mdig Mn Gn j a - 1 = m by omega]
                  exact h'
          · rw [if_neg hb]
            unfold zq_c
            rw [if_pos (by rw [hs.2.1]; exact (Bool.not_eq_false _).mp hb)]
        rw [hq] at hg
        rw [← (ht.2.2.2.2.2.2.1 a ha).1.1]
        cases hbb : bt (sf a) (zr_mdig Mn Gn j a) with
        | true =>
          rw [hbb] at hg
          rw [if_pos ((zt_hb0 _ (by omega)).mpr hg), if_pos rfl]
        | false =>
          rw [hbb] at hg
          rw [if_neg (fun z => by rw [zt_hb0 _ (by omega), hg] at z; cases z), if_neg (by decide)]
      rw [hwo]
      generalize zs Gn (fun a => if bt (sf a) (zr_mdig Mn Gn j a) = true then r26 a else 0) = W
      by_cases hc : W ≤ wl
      · rw [if_pos hc, if_neg (Int32.not_lt.mpr hc), if_neg (Int32.not_lt.mpr hc)]
        exact ⟨by omega, rfl, rfl, p3⟩
      · rw [if_neg hc, if_pos (Int32.not_le.mp hc), if_pos (Int32.not_le.mp hc)]
        exact ⟨by omega, rfl, rfl, Int32.le_trans p3 (Int32.le_of_lt (Int32.not_le.mp hc))⟩
    · rw [q1, q2, if_pos rfl, if_pos rfl, if_pos p3]
      exact ⟨by omega, rfl, rfl, p3⟩
end ZY8
theorem zy_Rn {Mn Gn : Nat} (hM : Mn ≤ 5) (hG : Gn ≤ 4) : (Mn + 1) ^ Gn ≤ 1296 := Nat.le_trans (Nat.pow_le_pow_left (show Mn + 1 ≤ 6 by omega) Gn) (Nat.le_trans (Nat.pow_le_pow_right (by decide) hG) (by decide))
theorem zy_lat (pl : Nat → Int32) {a d : Nat} (hd : d ≤ 5) (h : pl a = nI d) : zr_mlayAt2 (nI d) = zr_planned pl a := by
  unfold zr_mlayAt2 zr_planned
  rw [h]
  by_cases h0 : d = 0
  · rw [if_pos (by rw [h0]; rfl), if_pos (by rw [h0]; decide)]
  · rw [if_neg (nI_ne0 (by omega) (by omega)), if_neg ((by decide +kernel : ∀ k, k < 6 → ¬ k = 0 → ¬ nI k ≤ 0) d (by omega) h0)]
section ZTI
variable {Ls : Nat} {xs : Nat → Int32} {v : Nat → Nat → Int32} {w : Nat → Nat → Int64} {t : zk_H}
theorem zT_lay (h : zJ v w) (x : Int32) : zT Ls xs v w t 231 263 [.int x] := by
  rcases h.st with hst | hst
  · exact zT.mk (zK_lay_t x hst) (zM_lay_t (v := zb v 0 (upd (v 0) 10 1)) x (h.lv.trans hst)) rfl (by exact zJ.of 1 (by decide) h.1 rfl rfl)
  · obtain ⟨_, _, _, _, h46, _, D, Mn, Gn, Un, ht, hs, _, hz⟩ := h.1
    rcases zt_win x 1 30 (by decide) (by decide) with ⟨ho, hw⟩ | ⟨n, h1, h2, rfl, hw⟩
    · exact zT.mk (zK_lay_o x hst ho) (zM_lay_o (v := zb v 0 (upd (v 0) 10 2)) x (h.lv.trans hst) hw) rfl (by exact zJ.of 2 (by decide) h.1 rfl rfl)
    · obtain ⟨l, hl1, hl2, hl3, hl4⟩ := zy_lay ht hs (show n ≤ 60 by omega) rfl (v 54) (v 55) (v 56) (v 76) (v 68 26) (v 80) (v 81) (v 82) (v 79) (v 53 3) (v 53 4) (v 53 5) (v 53 6) (v 53 7)
      exact zT.mk (zK_lay_f hst D ht.2.1.1 ht.1.1 Mn ht.2.1.2.2.1 ht.1.2.1 Gn ht.2.1.2.2.2.2.1 ht.1.2.2.1 ht.2.2.2.2.1 n h1 h2) (zM_lay_f (v := (zb (zb (zb (zb (zb (zb v 0 (upd (v 0) 10 0)) 52 (upd (upd (v 52) 3 ((zr_plan D Mn Gn n (v 21) (v 22) (v 27) (v 34) (v 35) (v 23) (v 26) (v 32 0) (v 32 1) (v 54) (v 55) (v 56) (v 53 3) (v 53 4) (v 53 5) (v 53 6) (v 53 7)).1)) 4 ((zr_plan D Mn Gn n (v 21) (v 22) (v 27) (v 34) (v 35) (v 23) (v 26) (v 32 0) (v 32 1) (v 54) (v 55) (v 56) (v 53 3) (v 53 4) (v 53 5) (v 53 6) (v 53 7)).2.1))) 53 (upd (upd (upd (upd (upd (upd (upd (v 53) 0 ((zr_plan D Mn Gn n (v 21) (v 22) (v 27) (v 34) (v 35) (v 23) (v 26) (v 32 0) (v 32 1) (v 54) (v 55) (v 56) (v 53 3) (v 53 4) (v 53 5) (v 53 6) (v 53 7)).2.2.2.2.1)) 1 ((zr_plan D Mn Gn n (v 21) (v 22) (v 27) (v 34) (v 35) (v 23) (v 26) (v 32 0) (v 32 1) (v 54) (v 55) (v 56) (v 53 3) (v 53 4) (v 53 5) (v 53 6) (v 53 7)).2.2.2.2.2.1)) 3 ((zr_plan D Mn Gn n (v 21) (v 22) (v 27) (v 34) (v 35) (v 23) (v 26) (v 32 0) (v 32 1) (v 54) (v 55) (v 56) (v 53 3) (v 53 4) (v 53 5) (v 53 6) (v 53 7)).2.2.2.2.2.2.2.1)) 4 ((zr_plan D Mn Gn n (v 21) (v 22) (v 27) (v 34) (v 35) (v 23) (v 26) (v 32 0) (v 32 1) (v 54) (v 55) (v 56) (v 53 3) (v 53 4) (v 53 5) (v 53 6) (v 53 7)).2.2.2.2.2.2.2.2.1)) 5 ((zr_plan D Mn Gn n (v 21) (v 22) (v 27) (v 34) (v 35) (v 23) (v 26) (v 32 0) (v 32 1) (v 54) (v 55) (v 56) (v 53 3) (v 53 4) (v 53 5) (v 53 6) (v 53 7)).2.2.2.2.2.2.2.2.2.1)) 6 ((zr_plan D Mn Gn n (v 21) (v 22) (v 27) (v 34) (v 35) (v 23) (v 26) (v 32 0) (v 32 1) (v 54) (v 55) (v 56) (v 53 3) (v 53 4) (v 53 5) (v 53 6) (v 53 7)).2.2.2.2.2.2.2.2.2.2.1)) 7 ((zr_plan D Mn Gn n (v 21) (v 22) (v 27) (v 34) (v 35) (v 23) (v 26) (v 32 0) (v 32 1) (v 54) (v 55) (v 56) (v 53 3) (v 53 4) (v 53 5) (v 53 6) (v 53 7)).2.2.2.2.2.2.2.2.2.2.2))) 54 ((zr_plan D Mn Gn n (v 21) (v 22) (v 27) (v 34) (v 35) (v 23) (v 26) (v 32 0) (v 32 1) (v 54) (v 55) (v 56) (v 53 3) (v 53 4) (v 53 5) (v 53 6) (v 53 7)).2.2.2.2.2.2.1)) 55 ((zr_plan D Mn Gn n (v 21) (v 22) (v 27) (v 34) (v 35) (v 23) (v 26) (v 32 0) (v 32 1) (v 54) (v 55) (v 56) (v 53 3) (v 53 4) (v 53 5) (v 53 6) (v 53 7)).2.2.1)) 56 ((zr_plan D Mn Gn n (v 21) (v 22) (v 27) (v 34) (v 35) (v 23) (v 26) (v 32 0) (v 32 1) (v 54) (v 55) (v 56) (v 53 3) (v 53 4) (v 53 5) (v 53 6) (v 53 7)).2.2.2.1))) (h.lv.trans hst) D ht.2.1.2.1 ht.1.1 Gn ht.2.1.2.2.2.2.2.1 ht.1.2.2.1 (zy_ev ht) (zy_lie ht hs) Mn ht.2.1.2.2.2.1 ht.1.2.1 n (by omega) ((Mn + 1) ^ Gn) rfl (zy_Rn ht.1.2.1 ht.1.2.2.1) hw) hl4 (by exact zJ.of 0 (by decide) h.1 rfl rfl)
theorem zT_layAt (h : zJ v w) (x y : Int32) : zT Ls xs v w t 232 264 [.int x, .int y] := by
  obtain ⟨_, _, _, _, h46, _, D, Mn, Gn, Un, ht, hs, _, hz⟩ := h.1
  rcases zt_isX h.st (show Gn ≤ 8 by have := ht.1.2.2.1; omega) x with ⟨hx, hg⟩ | ⟨hst, a, ha, rfl, hg⟩
  · rw [← ht.2.1.2.2.2.2.1] at hx
    rw [← h.lv, ← ht.2.1.2.2.2.2.2.1] at hg
    exact zT.mk (zK_layAt_t x hx y) (zM_layAt_t (v := zb v 0 (upd (v 0) 10 1)) x y hg) rfl (by exact zJ.of 1 (by decide) h.1 rfl rfl)
  · rw [← h.lv, ← ht.2.1.2.2.2.2.2.1] at hg
    rcases zt_win y 1 30 (by decide) (by decide) with ⟨ho, hw⟩ | ⟨n, h1, h2, rfl, hw⟩
    · exact zT.mk (zK_layAt_o hst Gn ht.2.1.2.2.2.2.1 ht.1.2.2.1 a ha y ho) (zM_layAt_o (v := zb v 0 (upd (v 0) 10 2)) (nI a) y hg hw) rfl (by exact zJ.of 2 (by decide) h.1 rfl rfl)
    · obtain ⟨l, hl1, hl2, hl3, hl4⟩ := zy_lay ht hs (show n ≤ 60 by omega) rfl (v 54) (v 55) (v 56) (v 76) (v 68 26) (v 80) (v 81) (v 82) (v 79) (v 53 3) (v 53 4) (v 53 5) (v 53 6) (v 53 7)
      have hl31 : l < 2 ^ 31 := by have := zy_Rn ht.1.2.1 ht.1.2.2.1; omega
      exact zT.mk (zK_layAt_f hst D ht.2.1.1 ht.1.1 Mn ht.2.1.2.2.1 ht.1.2.1 Gn ht.2.1.2.2.2.2.1 ht.1.2.2.1 ht.2.2.2.2.1 n h1 h2 a ha l hl31 hl3) (zM_layAt_f (v := (zb (zb (zb (zb (zb (zb v 0 (upd (v 0) 10 0)) 52 (upd (upd (v 52) 3 ((zr_plan D Mn Gn n (v 21) (v 22) (v 27) (v 34) (v 35) (v 23) (v 26) (v 32 0) (v 32 1) (v 54) (v 55) (v 56) (v 53 3) (v 53 4) (v 53 5) (v 53 6) (v 53 7)).1)) 4 ((zr_plan D Mn Gn n (v 21) (v 22) (v 27) (v 34) (v 35) (v 23) (v 26) (v 32 0) (v 32 1) (v 54) (v 55) (v 56) (v 53 3) (v 53 4) (v 53 5) (v 53 6) (v 53 7)).2.1))) 53 (upd (upd (upd (upd (upd (upd (upd (v 53) 0 ((zr_plan D Mn Gn n (v 21) (v 22) (v 27) (v 34) (v 35) (v 23) (v 26) (v 32 0) (v 32 1) (v 54) (v 55) (v 56) (v 53 3) (v 53 4) (v 53 5) (v 53 6) (v 53 7)).2.2.2.2.1)) 1 ((zr_plan D Mn Gn n (v 21) (v 22) (v 27) (v 34) (v 35) (v 23) (v 26) (v 32 0) (v 32 1) (v 54) (v 55) (v 56) (v 53 3) (v 53 4) (v 53 5) (v 53 6) (v 53 7)).2.2.2.2.2.1)) 3 ((zr_plan D Mn Gn n (v 21) (v 22) (v 27) (v 34) (v 35) (v 23) (v 26) (v 32 0) (v 32 1) (v 54) (v 55) (v 56) (v 53 3) (v 53 4) (v 53 5) (v 53 6) (v 53 7)).2.2.2.2.2.2.2.1)) 4 ((zr_plan D Mn Gn n (v 21) (v 22) (v 27) (v 34) (v 35) (v 23) (v 26) (v 32 0) (v 32 1) (v 54) (v 55) (v 56) (v 53 3) (v 53 4) (v 53 5) (v 53 6) (v 53 7)).2.2.2.2.2.2.2.2.1)) 5 ((zr_plan D Mn Gn n (v 21) (v 22) (v 27) (v 34) (v 35) (v 23) (v 26) (v 32 0) (v 32 1) (v 54) (v 55) (v 56) (v 53 3) (v 53 4) (v 53 5) (v 53 6) (v 53 7)).2.2.2.2.2.2.2.2.2.1)) 6 ((zr_plan D Mn Gn n (v 21) (v 22) (v 27) (v 34) (v 35) (v 23) (v 26) (v 32 0) (v 32 1) (v 54) (v 55) (v 56) (v 53 3) (v 53 4) (v 53 5) (v 53 6) (v 53 7)).2.2.2.2.2.2.2.2.2.2.1)) 7 ((zr_plan D Mn Gn n (v 21) (v 22) (v 27) (v 34) (v 35) (v 23) (v 26) (v 32 0) (v 32 1) (v 54) (v 55) (v 56) (v 53 3) (v 53 4) (v 53 5) (v 53 6) (v 53 7)).2.2.2.2.2.2.2.2.2.2.2))) 54 ((zr_plan D Mn Gn n (v 21) (v 22) (v 27) (v 34) (v 35) (v 23) (v 26) (v 32 0) (v 32 1) (v 54) (v 55) (v 56) (v 53 3) (v 53 4) (v 53 5) (v 53 6) (v 53 7)).2.2.2.2.2.2.1)) 55 ((zr_plan D Mn Gn n (v 21) (v 22) (v 27) (v 34) (v 35) (v 23) (v 26) (v 32 0) (v 32 1) (v 54) (v 55) (v 56) (v 53 3) (v 53 4) (v 53 5) (v 53 6) (v 53 7)).2.2.1)) 56 (zr_spread Mn Gn l ((zr_plan D Mn Gn n (v 21) (v 22) (v 27) (v 34) (v 35) (v 23) (v 26) (v 32 0) (v 32 1) (v 54) (v 55) (v 56) (v 53 3) (v 53 4) (v 53 5) (v 53 6) (v 53 7)).2.2.2.1)))) a hg D ht.2.1.2.1 ht.1.1 Gn ht.2.1.2.2.2.2.2.1 ht.1.2.2.1 (zy_ev ht) (zy_lie ht hs) Mn ht.2.1.2.2.2.1 ht.1.2.1 n (by omega) ((Mn + 1) ^ Gn) rfl (zy_Rn ht.1.2.1 ht.1.2.2.1) hw ha l hl31 hl2 (zr_mdig Mn Gn l a) rfl) (zy_lat _ (by have := zr_mdig_le Mn Gn l a; have := ht.1.2.1; omega) (zr_spread_at Mn Gn l _ ha)) (by exact zJ.of 0 (by decide) h.1 rfl rfl)
end ZTI
