/-! ties: lay, layAt -/
theorem zfr_rel {σ τ ρ π : Type} {G : Nat → σ → σ ⊕ ρ} {H : Nat → τ → τ ⊕ π} {P : Nat → σ → τ → Prop} {Q : ρ → π → Prop} : ∀ (n i : Nat) (s : σ) (t : τ), P i s t → (∀ j s t, i ≤ j → j < i + n → P j s t → (∃ s' t', G j s = .inl s' ∧ H j t = .inl t' ∧ P (j + 1) s' t') ∨ ∃ r q, G j s = .inr r ∧ H j t = .inr q ∧ Q r q) →
    (∃ s' t', zfr G n i s = .inl s' ∧ zfr H n i t = .inl t' ∧ P (i + n) s' t') ∨ ∃ r q, zfr G n i s = .inr r ∧ zfr H n i t = .inr q ∧ Q r q
  | 0, i, s, t, h, _ => Or.inl ⟨s, t, rfl, rfl, h⟩
  | n + 1, i, s, t, h, hst => by
    rcases hst i s t (Nat.le_refl _) (by omega) h with ⟨s', t', h1, h2, h3⟩ | ⟨r, q, h1, h2, h3⟩
    · have ih := zfr_rel n (i + 1) s' t' h3 (fun j s t a b c => hst j s t (by omega) (by omega) c)
      rw [show i + 1 + n = i + (n + 1) by omega] at ih
      have e1 : zfr G (n + 1) i s = zfr G n (i + 1) s' := by show (match G i s with | .inl s' => zfr G n (i + 1) s' | .inr r => .inr r) = _; rw [h1]
      have e2 : zfr H (n + 1) i t = zfr H n (i + 1) t' := by show (match H i t with | .inl s' => zfr H n (i + 1) s' | .inr r => .inr r) = _; rw [h2]
      rw [e1, e2]
      exact ih
    · refine Or.inr ⟨r, q, ?_, ?_, h3⟩
      · show (match G i s with | .inl s' => zfr G n (i + 1) s' | .inr r => .inr r) = _; rw [h1]
      · show (match H i t with | .inl s' => zfr H n (i + 1) s' | .inr r => .inr r) = _; rw [h2]
theorem zr_mdig_le (Mn Gn l a : Nat) : zr_mdig Mn Gn l a ≤ Mn := by
  have := Nat.mod_lt (l / (Mn + 1) ^ (Gn - 1 - a)) (show 0 < Mn + 1 by omega)
  unfold zr_mdig; omega
theorem zl_mlayI_at (Mn Gn : Nat) (st : Nat → Int32) (l : Nat) (row : Nat → Int32) : ∀ n, n ≤ 4 → ∀ i, zf (zl_mlayIG Mn Gn st l) n 0 row i = if 10 ≤ i ∧ i < 10 + n ∧ bt (st 14) (i - 10) = false then nI (zr_mdig Mn Gn l (i - 10)) else row i
  | 0, _, i => by rw [if_neg (by omega)]; rfl
  | n + 1, hn, i => by
    have ih := zl_mlayI_at Mn Gn st l row n (by omega) i
    rw [zf_last, Nat.zero_add]
    unfold zl_mlayIG at ih ⊢
    simp only at ih ⊢
    by_cases hb : bt (st 14) n = false
    · rw [if_pos ((zt_hb0 _ (by omega)).mpr hb)]
      by_cases hi : i = 10 + n
      · subst hi
        rw [pk_us, show 10 + n - 10 = n by omega, if_pos ⟨by omega, by omega, hb⟩]
      · rw [pk_un hi, ih]
        by_cases hc : 10 ≤ i ∧ i < 10 + n ∧ bt (st 14) (i - 10) = false
        · rw [if_pos hc, if_pos ⟨hc.1, by omega, hc.2.2⟩]
        · rw [if_neg hc, if_neg (fun z => hc ⟨z.1, by omega, z.2.2⟩)]
    · rw [if_neg (fun z => hb ((zt_hb0 _ (by omega)).mp z)), ih]
      by_cases hc : 10 ≤ i ∧ i < 10 + n ∧ bt (st 14) (i - 10) = false
      · rw [if_pos hc, if_pos ⟨hc.1, by omega, hc.2.2⟩]
      · rw [if_neg hc, if_neg (fun z => ?_)]
        by_cases hi : i = 10 + n
        · rw [hi, show 10 + n - 10 = n by omega] at z
          exact hb z.2.2
        · exact hc ⟨z.1, by omega, z.2.2⟩
theorem zfr_toL {σ ρ : Type} {G : Nat → σ → σ ⊕ ρ} {n i : Nat} {s s' : σ} (h : G i s = .inl s') : zfr G (n + 1) i s = zfr G n (i + 1) s' := by
  show (match G i s with | .inl s' => zfr G n (i + 1) s' | .inr r => .inr r) = _
  rw [h]
theorem zfr_toR {σ ρ : Type} {G : Nat → σ → σ ⊕ ρ} {n i : Nat} {s : σ} {r : ρ} (h : G i s = .inr r) : zfr G (n + 1) i s = .inr r := by
  show (match G i s with | .inl s' => zfr G n (i + 1) s' | .inr r => .inr r) = _
  rw [h]
/-- a row that may be: what is LOST lies in no basket, no two in one -/
def zyl_V (Mn Gn : Nat) (st : Nat → Int32) (l j : Nat) : Prop := (∀ a, a < j → 0 < zr_mdig Mn Gn l a → bt (st 14) a = false) ∧ ∀ a b, a < j → b < j → a ≠ b → zr_mdig Mn Gn l a = zr_mdig Mn Gn l b → zr_mdig Mn Gn l a = 0
theorem zy_rowI {Mn Gn : Nat} (hM : Mn ≤ 5) (hG : Gn ≤ 4) (st : Nat → Int32) (l : Nat) : ∀ (n j : Nat) (tk : Int32), j + n = Gn → (∀ d, d < 32 → (bt tk d = true ↔ ∃ a, a < j ∧ zr_mdig Mn Gn l a = d)) → zyl_V Mn Gn st l j →
    ((match zfr (zl_misRowG Mn Gn st l) n j tk with | .inl _ => (1 : Int32) | .inr r => r) = 1 ∧ zyl_V Mn Gn st l Gn) ∨ ((match zfr (zl_misRowG Mn Gn st l) n j tk with | .inl _ => (1 : Int32) | .inr r => r) = 0 ∧ ¬ zyl_V Mn Gn st l Gn)
  | 0, j, tk, hj, _, hV => Or.inl ⟨rfl, (by have hj : j = Gn := hj; rw [hj] at hV; exact hV)⟩
  | n + 1, j, tk, hj, hT, hV => by
    have hd5 := zr_mdig_le Mn Gn l j
    obtain ⟨d, hd⟩ : ∃ d, d = zr_mdig Mn Gn l j := ⟨_, rfl⟩
    rw [← hd] at hd5
    have hT2 : ∀ e, e < 32 → (bt (tk ||| ((1 : Int32) <<< (nI d &&& 31))) e = true ↔ ∃ a, a < j + 1 ∧ zr_mdig Mn Gn l a = e) := by
      intro e he
      rw [zt_or1 _ (by omega) he, Bool.or_eq_true, hT e he]
      constructor
      · rintro (⟨a, h1, h2⟩ | h)
        · exact ⟨a, by omega, h2⟩
        · exact ⟨j, by omega, by rw [← hd]; exact (of_decide_eq_true h).symm⟩
      · rintro ⟨a, h1, h2⟩
        by_cases haj : a = j
        · subst haj
          exact Or.inr (decide_eq_true (by rw [hd]; exact h2.symm))
        · exact Or.inl ⟨a, by omega, h2⟩
    have hV2 : (d = 0 ∨ (bt (st 14) j = false ∧ bt tk d = false)) → zyl_V Mn Gn st l (j + 1) := by
      intro hok
      have half : ∀ a, a < j → zr_mdig Mn Gn l a = d → d = 0 := by
        intro a ha hda
        rcases hok with h | h
        · exact h
        · have := (hT d (by omega)).mpr ⟨a, ha, hda⟩
          rw [h.2] at this
          cases this
      refine ⟨?_, ?_⟩
      · intro a ha h0
        by_cases haj : a = j
        · subst haj
          rcases hok with h | h
          · omega
          · exact h.1
        · exact hV.1 a (by omega) h0
      · intro a b ha hb hab heq
        by_cases haj : a = j
        · subst haj
          rw [← hd]
          exact half b (by omega) (by rw [hd, heq])
        · by_cases hbj : b = j
          · subst hbj
            rw [heq, ← hd]
            exact half a (by omega) (by rw [hd, heq])
          · exact hV.2 a b (by omega) (by omega) hab heq
    have hjG : j < Gn := by omega
    have hG1 : zl_misRowG Mn Gn st l j tk = (if nI d ≤ 0 then .inl (tk ||| ((1 : Int32) <<< (nI d &&& 31))) else (if zr_mhasBit (st 14) (nI j) = 0 then if zr_mhasBit tk (nI d) = 0 then .inl (tk ||| ((1 : Int32) <<< (nI d &&& 31))) else .inr 0 else .inr 0) : Int32 ⊕ Int32) := by
      rw [hd]
      rfl
    by_cases h0 : d = 0
    · have hle : nI d ≤ 0 := by rw [h0]; decide
      rw [zfr_toL (hG1.trans (if_pos hle))]
      exact zy_rowI hM hG st l n (j + 1) _ (by omega) hT2 (hV2 (Or.inl h0))
    · have hle : ¬ nI d ≤ 0 := nI_nle (by omega) (by omega)
      by_cases hl : bt (st 14) j = false
      · have hlb : zr_mhasBit (st 14) (nI j) = 0 := (zt_hb0 _ (by omega)).mpr hl
        by_cases ht : bt tk d = false
        · have htb : zr_mhasBit tk (nI d) = 0 := (zt_hb0 _ (by omega)).mpr ht
          rw [zfr_toL (hG1.trans ((if_neg hle).trans ((if_pos hlb).trans (if_pos htb))))]
          exact zy_rowI hM hG st l n (j + 1) _ (by omega) hT2 (hV2 (Or.inr ⟨hl, ht⟩))
        · have htb : ¬ zr_mhasBit tk (nI d) = 0 := fun z => ht ((zt_hb0 _ (by omega)).mp z)
          rw [zfr_toR (hG1.trans ((if_neg hle).trans ((if_pos hlb).trans (if_neg htb))))]
          refine Or.inr ⟨rfl, fun z => ?_⟩
          obtain ⟨a, ha, hda⟩ := (hT d (by omega)).mp ((Bool.not_eq_false _).mp ht)
          have := z.2 a j (by omega) hjG (by omega) (by rw [hda, hd])
          omega
      · have hlb : ¬ zr_mhasBit (st 14) (nI j) = 0 := fun z => hl ((zt_hb0 _ (by omega)).mp z)
        rw [zfr_toR (hG1.trans ((if_neg hle).trans (if_neg hlb)))]
        exact Or.inr ⟨rfl, fun z => hl (z.1 j hjG (by omega))⟩
theorem zy_isRow {Mn Gn : Nat} (hM : Mn ≤ 5) (hG : Gn ≤ 4) (st : Nat → Int32) (l : Nat) : (zr_misRow Mn Gn st l = 1 ∧ zyl_V Mn Gn st l Gn) ∨ (zr_misRow Mn Gn st l = 0 ∧ ¬ zyl_V Mn Gn st l Gn) := by
  have h := zy_rowI hM hG st l Gn 0 0 (by omega) (fun d _ => by rw [b_0]; exact ⟨(fun z => by cases z), (fun z => by obtain ⟨a, ha, _⟩ := z; exact absurd ha (by omega))⟩) ⟨fun a ha => absurd ha (by omega), fun a b ha => absurd ha (by omega)⟩
  unfold zr_misRow
  exact h
/-! digits -/
theorem zy_blk {B k Q r : Nat} (hr : r < B ^ k) : (Q * B ^ k + r) / B ^ k = Q := by
  rw [Nat.mul_comm, Nat.mul_add_div (Nat.lt_of_le_of_lt (Nat.zero_le _) hr), Nat.div_eq_of_lt hr, Nat.add_zero]
theorem zy_dig_lo {Mn g k Q r a : Nat} (hr : r < (Mn + 1) ^ k) (ha : a < g) : zr_mdig Mn (g + k) (Q * (Mn + 1) ^ k + r) a = zr_mdig Mn g Q a := by
  unfold zr_mdig
  rw [show g + k - 1 - a = k + (g - 1 - a) by omega, Nat.pow_add, ← Nat.div_div_eq_div_mul, zy_blk hr]
theorem zy_dig_new {Mn g P p : Nat} (hp : p < Mn + 1) : zr_mdig Mn (g + 1) (P * (Mn + 1) + p) g = p := by
  unfold zr_mdig
  rw [show g + 1 - 1 - g = 0 by omega, Nat.pow_zero, Nat.div_one, Nat.mul_comm, Nat.mul_add_mod, Nat.mod_eq_of_lt hp]
theorem zy_dig_old {Mn g P p a : Nat} (hp : p < Mn + 1) (ha : a < g) : zr_mdig Mn (g + 1) (P * (Mn + 1) + p) a = zr_mdig Mn g P a := by
  have h := zy_dig_lo (Mn := Mn) (g := g) (k := 1) (Q := P) (r := p) (a := a) (by rw [Nat.pow_one]; exact hp) ha
  rw [Nat.pow_one] at h
  exact h
theorem zy_dig_hi {Mn g k Q r a : Nat} (ha : g ≤ a) (hk : a < g + k) : zr_mdig Mn (g + k) (Q * (Mn + 1) ^ k + r) a = zr_mdig Mn (g + k) r a := by
  unfold zr_mdig
  obtain ⟨e, he⟩ : ∃ e, e = g + k - 1 - a := ⟨_, rfl⟩
  rw [← he]
  obtain ⟨f, hf⟩ : ∃ f, k = e + 1 + f := ⟨k - (e + 1), by omega⟩
  have hB : 0 < (Mn + 1) ^ e := Nat.pow_pos (by omega)
  have h1 : Q * (Mn + 1) ^ k = (Mn + 1) ^ e * ((Mn + 1) * (Q * (Mn + 1) ^ f)) := by
    rw [hf, Nat.pow_add, Nat.pow_succ]
    ac_rfl
  rw [h1, Nat.mul_add_div hB, Nat.mul_add_mod]
/-! sums of worths -/
theorem zyl_sum {f h : Nat → Int32} : ∀ n, n ≤ 4 → (∀ a, a < n → ∃ x y : Nat, f a = nI x ∧ h a = nI y ∧ x ≤ y ∧ y ≤ 99) → ∃ X Y : Nat, zs n f = nI X ∧ zs n h = nI Y ∧ X ≤ Y ∧ Y ≤ 99 * n
  | 0, _, _ => ⟨0, 0, rfl, rfl, Nat.le_refl _, Nat.zero_le _⟩
  | n + 1, hn, hh => by
    obtain ⟨X, Y, h1, h2, h3, h4⟩ := zyl_sum n (by omega) (fun a ha => hh a (by omega))
    obtain ⟨x, y, g1, g2, g3, g4⟩ := hh n (by omega)
    refine ⟨X + x, Y + y, ?_, ?_, by omega, by omega⟩
    · rw [zs_succ, h1, g1, nI_add]
    · rw [zs_succ, h2, g2, nI_add]
theorem zy_ib (b : Bool) {x : Int32} {W : Nat} (h : x = nI W) : (if b = true then x else 0) = nI (if b = true then W else 0) := by
  cases b with
  | false => rfl
  | true => exact h
theorem zt_an2 (x y : Int32) {j : Nat} (hj : j < 32) : (x &&& y) &&& ((1 : Int32) <<< (nI j &&& 31)) = 0 ↔ (bt x j && bt y j) = false := by
  rw [zt_z]
  constructor
  · intro h
    have h1 := h j hj
    rw [b_and, b_and, zt_one hj hj, decide_eq_true rfl, Bool.and_true] at h1
    exact h1
  · intro h i hi
    rw [b_and, b_and, zt_one hj hi]
    by_cases e : i = j
    · subst e
      rw [decide_eq_true rfl, Bool.and_true]
      exact h
    · rw [decide_eq_false e, Bool.and_false]
theorem zf_blk {σ : Type} (A : Nat → σ → σ) (C i : Nat) : ∀ (n : Nat) (s : σ), zf A (n * C) i s = zf (fun p s => zf A C (i + p * C) s) n 0 s
  | 0, s => by rw [Nat.zero_mul]; rfl
  | n + 1, s => by
    rw [Nat.add_mul n 1, Nat.one_mul, zf_add, zf_blk A C i n s, zf_last, Nat.zero_add]
/-! the reference's rounds over all rows, the class's over those that can be best -/
def zyl_W (Mn Gn : Nat) (sf wr : Nat → Int32) (l : Nat) : Int32 := zs Gn (fun a => if bt (sf a) (zr_mdig Mn Gn l a) = true then wr a else 0)
def zyl_A (Mn Gn : Nat) (st sf wr : Nat → Int32) (j : Nat) (s : Nat × Int32) : Nat × Int32 := if zr_misRow Mn Gn st j = 0 then s else if s.2 < zyl_W Mn Gn sf wr j then (j, zyl_W Mn Gn sf wr j) else s
/-- behind the rows below L: the best so far -/
def zyl_R (Mn Gn : Nat) (st sf wr : Nat → Int32) (L : Nat) (s : Nat × Int32) (bp : Nat → Int32) (bw : Int32) : Prop :=
  s.2 = bw ∧ s.1 ≤ L ∧ (-1 : Int32) ≤ s.2 ∧ (∀ l, l < L → zyl_V Mn Gn st l Gn → zyl_W Mn Gn sf wr l ≤ s.2) ∧ (s.2 = -1 ∨ ∀ a, a < Gn → bp a = nI (zr_mdig Mn Gn s.1 a))
section ZROWS
variable {Mn Gn : Nat} {st sf wr : Nat → Int32}
/-- a good that would be LOST there needn't lie: the row with it in none is ahead and leaves as much -/
theorem zy_drop (hG : Gn ≤ 4) (hwr : ∀ a, a < Gn → ∃ W, W ≤ 99 ∧ wr a = nI W) {g k P p r : Nat} (hk : g + 1 + k = Gn) (hp : p < Mn + 1) (hr : r < (Mn + 1) ^ k) (hs : bt (sf g) p = false)
    (hV : zyl_V Mn Gn st ((P * (Mn + 1) + p) * (Mn + 1) ^ k + r) Gn) : zyl_V Mn Gn st ((P * (Mn + 1)) * (Mn + 1) ^ k + r) Gn ∧ zyl_W Mn Gn sf wr ((P * (Mn + 1) + p) * (Mn + 1) ^ k + r) ≤ zyl_W Mn Gn sf wr ((P * (Mn + 1)) * (Mn + 1) ^ k + r) := by
  subst hk
  have dg : zr_mdig Mn (g + 1 + k) ((P * (Mn + 1) + p) * (Mn + 1) ^ k + r) g = p := by rw [zy_dig_lo hr (by omega), zy_dig_new hp]
  have dg0 : zr_mdig Mn (g + 1 + k) ((P * (Mn + 1)) * (Mn + 1) ^ k + r) g = 0 := by
    rw [zy_dig_lo hr (by omega)]
    have h := zy_dig_new (Mn := Mn) (g := g) (P := P) (p := 0) (by omega)
    rw [Nat.add_zero] at h
    exact h
  have de : ∀ a, a < g + 1 + k → a ≠ g → zr_mdig Mn (g + 1 + k) ((P * (Mn + 1)) * (Mn + 1) ^ k + r) a = zr_mdig Mn (g + 1 + k) ((P * (Mn + 1) + p) * (Mn + 1) ^ k + r) a := by
    intro a ha hag
    by_cases hlt : a < g
    · rw [zy_dig_lo hr (by omega), zy_dig_lo hr (by omega), zy_dig_old hp hlt]
      have h := zy_dig_old (Mn := Mn) (g := g) (P := P) (p := 0) (a := a) (by omega) hlt
      rw [Nat.add_zero] at h
      exact h
    · rw [zy_dig_hi (by omega) ha, zy_dig_hi (by omega) ha]
  refine ⟨⟨?_, ?_⟩, ?_⟩
  · intro a ha h0
    by_cases hag : a = g
    · rw [hag, dg0] at h0
      omega
    · rw [de a ha hag] at h0
      exact hV.1 a ha h0
  · intro a b ha hb hab heq
    by_cases hag : a = g
    · rw [hag]
      exact dg0
    · by_cases hbg : b = g
      · rw [heq, hbg, dg0]
      · rw [de a ha hag, de b hb hbg] at heq
        rw [de a ha hag]
        exact hV.2 a b ha hb hab heq
  · have hz := zyl_sum (f := fun a => if bt (sf a) (zr_mdig Mn (g + 1 + k) ((P * (Mn + 1) + p) * (Mn + 1) ^ k + r) a) = true then wr a else 0) (h := fun a => if bt (sf a) (zr_mdig Mn (g + 1 + k) ((P * (Mn + 1)) * (Mn + 1) ^ k + r) a) = true then wr a else 0) (g + 1 + k) hG (fun a ha => ?_)
    · obtain ⟨X, Y, h1, h2, h3, h4⟩ := hz
      show zs (g + 1 + k) _ ≤ zs (g + 1 + k) _
      rw [h1, h2]
      exact nI_le h3 (by omega)
    · obtain ⟨W, hW, hw⟩ := hwr a ha
      refine ⟨(if bt (sf a) (zr_mdig Mn (g + 1 + k) ((P * (Mn + 1) + p) * (Mn + 1) ^ k + r) a) = true then W else 0), (if bt (sf a) (zr_mdig Mn (g + 1 + k) ((P * (Mn + 1)) * (Mn + 1) ^ k + r) a) = true then W else 0), zy_ib _ hw, zy_ib _ hw, ?_, ?_⟩
      · by_cases hag : a = g
        · rw [hag, dg, dg0, hs]
          exact Nat.zero_le _
        · rw [de a ha hag]
          exact Nat.le_refl _
      · split <;> omega
/-- rows that the class leaves out -/
theorem zy_skip (hM : Mn ≤ 5) (hG : Gn ≤ 4) (hwr : ∀ a, a < Gn → ∃ W, W ≤ 99 ∧ wr a = nI W) {g k P p : Nat} {us : Int32} {s : Nat × Int32} {bp : Nat → Int32} {bw : Int32} (hk : g + 1 + k = Gn) (hp : p < Mn + 1) (hp0 : 0 < p)
    (hus : ∀ d, d < 32 → (bt us d = true ↔ d ≠ 0 ∧ ∃ a, a < g ∧ zr_mdig Mn g P a = d)) (hno : (bt (sf g) p && !bt us p) = false) (hR : zyl_R Mn Gn st sf wr ((P * (Mn + 1) + p) * (Mn + 1) ^ k) s bp bw) :
    zf (zyl_A Mn Gn st sf wr) ((Mn + 1) ^ k) ((P * (Mn + 1) + p) * (Mn + 1) ^ k) s = s ∧ zyl_R Mn Gn st sf wr ((P * (Mn + 1) + p + 1) * (Mn + 1) ^ k) s bp bw := by
  obtain ⟨r1, r2, r3, r4, r5⟩ := hR
  have hC : 0 < (Mn + 1) ^ k := Nat.pow_pos (by omega)
  have low : ∀ r, r < (Mn + 1) ^ k → zyl_V Mn Gn st ((P * (Mn + 1) + p) * (Mn + 1) ^ k + r) Gn → zyl_W Mn Gn sf wr ((P * (Mn + 1) + p) * (Mn + 1) ^ k + r) ≤ s.2 := by
    intro r hr hV
    have hs : bt (sf g) p = false := by
      cases hb : bt (sf g) p with
      | false => rfl
      | true =>
        rw [hb, Bool.true_and, Bool.not_eq_false'] at hno
        obtain ⟨_, a, ha, hda⟩ := (hus p (by omega)).mp hno
        have e1 : zr_mdig Mn Gn ((P * (Mn + 1) + p) * (Mn + 1) ^ k + r) a = p := by rw [← hk, zy_dig_lo hr (by omega), zy_dig_old hp ha, hda]
        have e2 : zr_mdig Mn Gn ((P * (Mn + 1) + p) * (Mn + 1) ^ k + r) g = p := by rw [← hk, zy_dig_lo hr (by omega), zy_dig_new hp]
        have := hV.2 a g (by omega) (by omega) (by omega) (by rw [e1, e2])
        omega
    obtain ⟨v1, v2⟩ := zy_drop hG hwr hk hp hr hs hV
    refine Int32.le_trans v2 (r4 _ ?_ v1)
    have h1 : (P * (Mn + 1)) * (Mn + 1) ^ k + 1 * (Mn + 1) ^ k ≤ (P * (Mn + 1) + p) * (Mn + 1) ^ k := by
      rw [← Nat.add_mul]
      exact Nat.mul_le_mul_right _ (by omega)
    rw [Nat.one_mul] at h1
    omega
  refine ⟨?_, r1, ?_, r3, ?_, r5⟩
  · refine zf_ind (P := fun _ c => c = s) _ _ s rfl (fun j c h1 h2 hc => ?_)
    have hc : c = s := hc
    show zyl_A Mn Gn st sf wr j c = s
    rw [hc]
    obtain ⟨r, rfl⟩ : ∃ r, j = (P * (Mn + 1) + p) * (Mn + 1) ^ k + r := ⟨j - (P * (Mn + 1) + p) * (Mn + 1) ^ k, by omega⟩
    unfold zyl_A
    rcases zy_isRow hM hG st ((P * (Mn + 1) + p) * (Mn + 1) ^ k + r) with ⟨q1, q2⟩ | ⟨q1, q2⟩
    · rw [if_neg (by rw [q1]; decide), if_neg (Int32.not_lt.mpr (low r (by omega) q2))]
    · rw [if_pos q1]
  · rw [Nat.add_mul (P * (Mn + 1) + p) 1, Nat.one_mul]; omega
  · intro l hl hV
    by_cases h : l < (P * (Mn + 1) + p) * (Mn + 1) ^ k
    · exact r4 l h hV
    · rw [Nat.add_mul (P * (Mn + 1) + p) 1, Nat.one_mul] at hl
      obtain ⟨r, rfl⟩ : ∃ r, l = (P * (Mn + 1) + p) * (Mn + 1) ^ k + r := ⟨l - (P * (Mn + 1) + p) * (Mn + 1) ^ k, by omega⟩
      exact low r (by omega) hV
theorem zy_rows (hM : Mn ≤ 5) (hG : Gn ≤ 4) (hls : ∀ a, a < Gn → bt (st 14) a = true → ∀ d, d < 32 → bt (sf a) d = false) (hwr : ∀ a, a < Gn → ∃ W, W ≤ 99 ∧ wr a = nI W) :
    ∀ (k g P : Nat) (us wo : Int32) (s : Nat × Int32) (pl bp : Nat → Int32) (bw : Int32), g + k = Gn → (∀ d, d < 32 → (bt us d = true ↔ d ≠ 0 ∧ ∃ a, a < g ∧ zr_mdig Mn g P a = d)) →
      (∀ a, a < g → 0 < zr_mdig Mn g P a → bt (sf a) (zr_mdig Mn g P a) = true) → (∀ a b, a < g → b < g → a ≠ b → zr_mdig Mn g P a = zr_mdig Mn g P b → zr_mdig Mn g P a = 0) →
      wo = zs g (fun a => if bt (sf a) (zr_mdig Mn g P a) = true then wr a else 0) → (∀ a, a < g → pl a = nI (zr_mdig Mn g P a)) → zyl_R Mn Gn st sf wr (P * (Mn + 1) ^ k) s bp bw →
      (∀ a, a < g → (zr_lr Mn sf wr k g us wo (pl, bp, bw)).1 a = pl a) ∧ zyl_R Mn Gn st sf wr ((P + 1) * (Mn + 1) ^ k) (zf (zyl_A Mn Gn st sf wr) ((Mn + 1) ^ k) (P * (Mn + 1) ^ k) s) (zr_lr Mn sf wr k g us wo (pl, bp, bw)).2.1 (zr_lr Mn sf wr k g us wo (pl, bp, bw)).2.2
  | 0, g, P, us, wo, s, pl, bp, bw, hk, hus, hsf, hdi, hwo, hpl, hR => by
    have hk : g = Gn := hk
    subst hk
    rw [Nat.pow_zero, Nat.mul_one] at hR
    rw [Nat.pow_zero, Nat.mul_one, Nat.mul_one]
    refine ⟨fun a _ => rfl, ?_⟩
    obtain ⟨r1, r2, r3, r4, r5⟩ := hR
    have hV : zyl_V Mn g st P g := ⟨(fun a ha h0 => by
      cases hb : bt (st 14) a with
      | false => rfl
      | true =>
        have hd := zr_mdig_le Mn g P a
        have h1 := hsf a ha h0
        rw [hls a ha hb _ (by omega)] at h1
        cases h1), hdi⟩
    have hW : zyl_W Mn g sf wr P = wo := hwo.symm
    show zyl_R Mn g st sf wr (P + 1) (zyl_A Mn g st sf wr P s) (zr_keep wo bw pl bp).1 (zr_keep wo bw pl bp).2
    have hA : zyl_A Mn g st sf wr P s = if s.2 < wo then (P, wo) else s := by
      unfold zyl_A
      rcases zy_isRow hM hG st P with ⟨q1, _⟩ | ⟨_, q2⟩
      · rw [if_neg (by rw [q1]; decide), hW]
      · exact absurd hV q2
    rw [hA]
    unfold zr_keep
    by_cases hc : wo ≤ bw
    · rw [if_pos hc, if_neg (by rw [r1]; exact Int32.not_lt.mpr hc)]
      refine ⟨r1, (by omega), r3, (fun l hl hv => ?_), r5⟩
      by_cases hlP : l = P
      · rw [hlP, hW, r1]; exact hc
      · exact r4 l (by omega) hv
    · have hlt : bw < wo := Int32.not_le.mp hc
      rw [if_neg hc, if_pos (by rw [r1]; exact hlt)]
      refine ⟨rfl, (by show P ≤ P + 1; omega), Int32.le_trans r3 (by rw [r1]; exact Int32.le_of_lt hlt), (fun l hl hv => ?_), Or.inr (fun a ha => ?_)⟩
      · show zyl_W Mn g sf wr l ≤ wo
        by_cases hlP : l = P
        · rw [hlP, hW]; exact Int32.le_refl _
        · exact Int32.le_trans (r4 l (by omega) hv) (by rw [r1]; exact Int32.le_of_lt hlt)
      · show va_cpy pl bp 0 0 4 a = _
        rw [pk_cpy_in (Nat.zero_le _) (by omega), Nat.sub_zero, Nat.zero_add]
        exact hpl a ha
  | k + 1, g, P, us, wo, s, pl, bp, bw, hk, hus, hsf, hdi, hwo, hpl, hR => by
    have hpow : (Mn + 1) ^ (k + 1) = (Mn + 1) * (Mn + 1) ^ k := by rw [Nat.pow_succ, Nat.mul_comm]
    have e0 : P * (Mn + 1) ^ (k + 1) = (P * (Mn + 1) + 0) * (Mn + 1) ^ k := by rw [hpow, Nat.add_zero (P * (Mn + 1)), Nat.mul_assoc]
    have e1 : (P + 1) * (Mn + 1) ^ (k + 1) = (P * (Mn + 1) + (0 + (Mn + 1))) * (Mn + 1) ^ k := by rw [hpow, Nat.zero_add, Nat.add_mul P 1, Nat.one_mul, Nat.add_mul (P * (Mn + 1)), Nat.mul_assoc]
    have e2 : zf (zyl_A Mn Gn st sf wr) ((Mn + 1) ^ (k + 1)) (P * (Mn + 1) ^ (k + 1)) s = zf (fun p s => zf (zyl_A Mn Gn st sf wr) ((Mn + 1) ^ k) ((P * (Mn + 1) + p) * (Mn + 1) ^ k) s) (Mn + 1) 0 s := by
      rw [hpow, zf_blk]
      refine zf_congr _ _ _ (fun p s _ _ => ?_)
      show zf _ _ (P * ((Mn + 1) * (Mn + 1) ^ k) + p * (Mn + 1) ^ k) s = zf _ _ ((P * (Mn + 1) + p) * (Mn + 1) ^ k) s
      rw [Nat.add_mul (P * (Mn + 1)) p, Nat.mul_assoc]
    have e3 : zr_lr Mn sf wr (k + 1) g us wo (pl, bp, bw) = zf (zl_lrG (sf g) (wr g) g us wo (zr_lr Mn sf wr k (g + 1))) (Mn + 1) 0 (pl, bp, bw) := rfl
    rw [e0] at hR
    rw [e1, e2, e3]
    have key := zf_rel (G := fun p s => zf (zyl_A Mn Gn st sf wr) ((Mn + 1) ^ k) ((P * (Mn + 1) + p) * (Mn + 1) ^ k) s) (H := zl_lrG (sf g) (wr g) g us wo (zr_lr Mn sf wr k (g + 1))) (P := fun p s t => (∀ a, a < g → t.1 a = pl a) ∧ zyl_R Mn Gn st sf wr ((P * (Mn + 1) + p) * (Mn + 1) ^ k) s t.2.1 t.2.2) (Mn + 1) 0 s (pl, bp, bw) ⟨fun _ _ => rfl, hR⟩ ?_
    · exact key
    · intro p s t _ hp1 hst
      have hp : p < Mn + 1 := by omega
      obtain ⟨pl1, bp1, bw1⟩ := t
      obtain ⟨hpl1, hR1⟩ := hst
      have hpl1 : ∀ a, a < g → pl1 a = pl a := hpl1
      have hR1 : zyl_R Mn Gn st sf wr ((P * (Mn + 1) + p) * (Mn + 1) ^ k) s bp1 bw1 := hR1
      have hno : ((sf g &&& (us ^^^ (-1))) &&& ((1 : Int32) <<< (nI p &&& 31))) = 0 ↔ (bt (sf g) p && !bt us p) = false := by
        rw [zt_an2 _ _ (by omega), b_xor, b_m1 p (by omega), Bool.xor_true]
      -- an explored place
      have go : ∀ (us2 wo2 : Int32), (∀ d, d < 32 → (bt us2 d = true ↔ d ≠ 0 ∧ ((∃ a, a < g ∧ zr_mdig Mn g P a = d) ∨ d = p))) → (0 < p → bt (sf g) p = true ∧ bt us p = false) → wo2 = wo + (if bt (sf g) p = true then wr g else 0) →
          (∀ a, a < g → (zr_lr Mn sf wr k (g + 1) us2 wo2 (upd pl1 g (nI p), bp1, bw1)).1 a = pl a) ∧ zyl_R Mn Gn st sf wr ((P * (Mn + 1) + (p + 1)) * (Mn + 1) ^ k) (zf (zyl_A Mn Gn st sf wr) ((Mn + 1) ^ k) ((P * (Mn + 1) + p) * (Mn + 1) ^ k) s) (zr_lr Mn sf wr k (g + 1) us2 wo2 (upd pl1 g (nI p), bp1, bw1)).2.1 (zr_lr Mn sf wr k (g + 1) us2 wo2 (upd pl1 g (nI p), bp1, bw1)).2.2 := by
        intro us2 wo2 h1 h2 h3
        have ih := zy_rows hM hG hls hwr k (g + 1) (P * (Mn + 1) + p) us2 wo2 s (upd pl1 g (nI p)) bp1 bw1 (by omega) ?_ ?_ ?_ ?_ ?_ hR1
        · refine ⟨fun a ha => ?_, ih.2⟩
          rw [ih.1 a (by omega), pk_un (by omega)]
          exact hpl1 a ha
        · intro d hd
          rw [h1 d hd]
          constructor
          · rintro ⟨z, (⟨a, ha, hda⟩ | h)⟩
            · exact ⟨z, a, (by omega), (by rw [zy_dig_old hp ha]; exact hda)⟩
            · exact ⟨z, g, (by omega), (by rw [zy_dig_new hp]; exact h.symm)⟩
          · rintro ⟨z, a, ha, hda⟩
            by_cases hag : a = g
            · rw [hag, zy_dig_new hp] at hda
              exact ⟨z, Or.inr hda.symm⟩
            · rw [zy_dig_old hp (by omega)] at hda
              exact ⟨z, Or.inl ⟨a, (by omega), hda⟩⟩
        · intro a ha
          by_cases hag : a = g
          · rw [hag, zy_dig_new hp]
            exact fun z => (h2 z).1
          · rw [zy_dig_old hp (by omega)]
            exact hsf a (by omega)
        · have half : ∀ a, a < g → zr_mdig Mn g P a = p → p = 0 := by
            intro a ha hda
            rcases Nat.eq_zero_or_pos p with z | z
            · exact z
            · have := (hus p (by omega)).mpr ⟨by omega, a, ha, hda⟩
              rw [(h2 z).2] at this
              cases this
          intro a b ha hb hab heq
          by_cases hag : a = g
          · have hb2 : b < g := by omega
            rw [hag, zy_dig_new hp, zy_dig_old hp hb2] at heq
            rw [hag, zy_dig_new hp]
            exact half b hb2 heq.symm
          · have ha2 : a < g := by omega
            rw [zy_dig_old hp ha2] at heq
            rw [zy_dig_old hp ha2]
            by_cases hbg : b = g
            · rw [hbg, zy_dig_new hp] at heq
              rw [heq]
              exact half a ha2 heq
            · have hb2 : b < g := by omega
              rw [zy_dig_old hp hb2] at heq
              exact hdi a b ha2 hb2 hab heq
        · rw [h3, hwo, zs_succ, zy_dig_new hp]
          exact congrArg (fun z => z + (if bt (sf g) p = true then wr g else 0)) (zs_congr (fun a ha => by simp only [zy_dig_old hp ha]))
        · intro a ha
          by_cases hag : a = g
          · rw [hag, pk_us, zy_dig_new hp]
          · rw [pk_un hag, zy_dig_old hp (by omega), hpl1 a (by omega)]
            exact hpl a (by omega)
      have hu0 : bt us 0 = false := by
        cases hb : bt us 0 with
        | false => rfl
        | true => exact absurd rfl ((hus 0 (by omega)).mp hb).1
      have same : p = 0 → ∀ d, d < 32 → (bt us d = true ↔ d ≠ 0 ∧ ((∃ a, a < g ∧ zr_mdig Mn g P a = d) ∨ d = p)) := by
        intro h0 d hd
        rw [hus d hd]
        constructor
        · exact fun z => ⟨z.1, Or.inl z.2⟩
        · rintro ⟨z, (h | h)⟩
          · exact ⟨z, h⟩
          · exact absurd (h.trans h0) z
      show (∀ a, a < g → (zl_lrG (sf g) (wr g) g us wo (zr_lr Mn sf wr k (g + 1)) p (pl1, bp1, bw1)).1 a = pl a) ∧ zyl_R Mn Gn st sf wr ((P * (Mn + 1) + (p + 1)) * (Mn + 1) ^ k) (zf (zyl_A Mn Gn st sf wr) ((Mn + 1) ^ k) ((P * (Mn + 1) + p) * (Mn + 1) ^ k) s) (zl_lrG (sf g) (wr g) g us wo (zr_lr Mn sf wr k (g + 1)) p (pl1, bp1, bw1)).2.1 (zl_lrG (sf g) (wr g) g us wo (zr_lr Mn sf wr k (g + 1)) p (pl1, bp1, bw1)).2.2
      unfold zl_lrG
      dsimp only
      by_cases hn : (bt (sf g) p && !bt us p) = false
      · rw [if_pos (hno.mpr hn)]
        by_cases h0 : p = 0
        · rw [if_pos (show nI p = 0 by rw [h0]; rfl)]
          have hs0 : ¬ bt (sf g) p = true := fun z => by
            rw [z, h0, hu0] at hn
            exact absurd hn (by decide)
          have hgo := go us wo (same h0) (fun z => absurd h0 (by omega)) (by rw [if_neg hs0, Int32.add_zero])
          have hz : nI p = 0 := by rw [h0]; rfl
          rw [hz] at hgo
          exact hgo
        · rw [if_neg (nI_ne0 (by omega) (by omega))]
          obtain ⟨q1, q2⟩ := zy_skip hM hG hwr (by omega) hp (by omega) hus hn hR1
          rw [q1]
          exact ⟨hpl1, q2⟩
      · rw [if_neg (fun z => hn (hno.mp z))]
        have hy : bt (sf g) p = true ∧ bt us p = false := by
          cases ha : bt (sf g) p <;> cases hb : bt us p <;> rw [ha, hb] at hn <;> first | exact ⟨rfl, rfl⟩ | exact absurd rfl hn
        by_cases h0 : p = 0
        · rw [if_pos (show nI p = 0 by rw [h0]; rfl)]
          exact go us (wo + wr g) (same h0) (fun z => absurd h0 (by omega)) (by rw [if_pos hy.1])
        · rw [if_neg (nI_ne0 (by omega) (by omega))]
          refine go _ (wo + wr g) (fun d hd => ?_) (fun _ => hy) (by rw [if_pos hy.1])
          rw [zt_or1 _ (by omega) hd, Bool.or_eq_true, hus d hd]
          constructor
          · rintro (⟨z, h⟩ | h)
            · exact ⟨z, Or.inl h⟩
            · have hdp : d = p := of_decide_eq_true h
              exact ⟨(by omega), Or.inr hdp⟩
          · rintro ⟨z, (h | h)⟩
            · exact Or.inl ⟨z, h⟩
            · exact Or.inr (decide_eq_true h)
end ZROWS
theorem zl_safe_1 (sk : Nat → Int32) (yg : Int32) (sp : Nat) (fe th la kd : Nat → Int32) (a j : Nat) (s : Int32 × Int32 × Int32 × Int32 × Int32 × Int32) : (zl_safeG sk yg sp fe th la kd a j s).1 = if (zr_follow sk yg sp (fe a) (la j) ((zr_heldOff (kd j) (th j) 1) &&& (0 ^^^ (-1))) ((zr_heldOff (kd j) (th j) 2) &&& (0 ^^^ (-1)))).1 = 0 then s.1 else s.1 ||| ((1 : Int32) <<< ((nI (j + 1)) &&& 31)) := by
  obtain ⟨b, w3, w4, w5, w6, w7⟩ := s
  unfold zl_safeG
  show (if _ then _ else _ : Int32 × _).1 = _
  split <;> rfl
theorem zl_safe_at (sk : Nat → Int32) (yg : Int32) (sp : Nat) (fe th la kd : Nat → Int32) (a : Nat) (s : Int32 × Int32 × Int32 × Int32 × Int32 × Int32) : ∀ n, n ≤ 5 → ∀ d, d < 32 → bt (zf (zl_safeG sk yg sp fe th la kd a) n 0 s).1 d = (bt s.1 d || decide (∃ m, m < n ∧ d = m + 1 ∧ ¬ (zr_follow sk yg sp (fe a) (la m) ((zr_heldOff (kd m) (th m) 1) &&& (0 ^^^ (-1))) ((zr_heldOff (kd m) (th m) 2) &&& (0 ^^^ (-1)))).1 = 0))
  | 0, _, d, hd => by rw [decide_eq_false (fun z => by obtain ⟨m, h, _⟩ := z; omega), Bool.or_false]; rfl
  | n + 1, hn, d, hd => by
    have ih := zl_safe_at sk yg sp fe th la kd a s n (by omega) d hd
    rw [zf_last, Nat.zero_add, zl_safe_1]
    by_cases hf : (zr_follow sk yg sp (fe a) (la n) ((zr_heldOff (kd n) (th n) 1) &&& (0 ^^^ (-1))) ((zr_heldOff (kd n) (th n) 2) &&& (0 ^^^ (-1)))).1 = 0
    · rw [if_pos hf, ih]
      congr 1
      apply decide_eq_decide.mpr
      constructor
      · rintro ⟨m, h1, h2, h3⟩
        exact ⟨m, by omega, h2, h3⟩
      · rintro ⟨m, h1, h2, h3⟩
        by_cases hmn : m = n
        · subst hmn; exact absurd hf h3
        · exact ⟨m, by omega, h2, h3⟩
    · rw [if_neg hf, zt_or1 _ (by omega) hd, ih, Bool.or_assoc]
      congr 1
      rw [← Bool.decide_or]
      apply decide_eq_decide.mpr
      constructor
      · rintro (⟨m, h1, h2, h3⟩ | h)
        · exact ⟨m, by omega, h2, h3⟩
        · exact ⟨n, by omega, h, hf⟩
      · rintro ⟨m, h1, h2, h3⟩
        by_cases hmn : m = n
        · subst hmn; exact Or.inr h2
        · exact Or.inl ⟨m, by omega, h2, h3⟩
theorem zr_safe_at (Mn : Nat) (hM : Mn ≤ 5) (sk : Nat → Int32) (yg : Int32) (sp : Nat) (fe th la kd : Nat → Int32) (a : Nat) (w3 w4 w5 w6 w7 : Int32) {d : Nat} (hd : d < 32) : bt (zr_safe Mn sk yg sp fe th la kd a w3 w4 w5 w6 w7).1 d = decide ((d = 0 ∧ ¬ (zr_follow sk yg sp (fe a) 0 0 0).1 = 0) ∨ ∃ m, m < Mn ∧ d = m + 1 ∧ ¬ (zr_follow sk yg sp (fe a) (la m) ((zr_heldOff (kd m) (th m) 1) &&& (0 ^^^ (-1))) ((zr_heldOff (kd m) (th m) 2) &&& (0 ^^^ (-1)))).1 = 0) := by
  unfold zr_safe
  by_cases hf : (zr_follow sk yg sp (fe a) 0 0 0).1 = 0
  · rw [if_pos hf]
    show bt (zf (zl_safeG sk yg sp fe th la kd a) Mn 0 (0, _)).1 d = _
    rw [zl_safe_at _ _ _ _ _ _ _ _ _ Mn hM d hd, b_0, Bool.false_or]
    apply decide_eq_decide.mpr
    constructor
    · exact Or.inr
    · rintro (h | h)
      · exact absurd hf h.2
      · exact h
  · rw [if_neg hf]
    show bt (zf (zl_safeG sk yg sp fe th la kd a) Mn 0 (1, _)).1 d = _
    rw [zl_safe_at _ _ _ _ _ _ _ _ _ Mn hM d hd, zt_1 hd, ← Bool.decide_or]
    apply decide_eq_decide.mpr
    constructor
    · rintro (h | h)
      · exact Or.inl ⟨h, hf⟩
      · exact Or.inr h
    · rintro (h | h)
      · exact Or.inl h.1
      · exact Or.inr h
theorem zl_plA_1 (Mn : Nat) (sk : Nat → Int32) (yg : Int32) (sp : Nat) (fe th la kd : Nat → Int32) (lo : Int32) (j : Nat) (s : (Nat → Int32) × Int32 × Int32 × Int32 × Int32 × Int32) : ∃ w3 w4 w5 w6 w7, (zl_plAG Mn sk yg sp fe th la kd lo j s).1 = upd s.1 j (if zr_isLost lo (nI j) = 0 then (zr_safe Mn sk yg sp fe th la kd j w3 w4 w5 w6 w7).1 else 0) := by
  obtain ⟨sf, w3, w4, w5, w6, w7⟩ := s
  refine ⟨w3, w4, w5, w6, w7, ?_⟩
  unfold zl_plAG
  by_cases hl : zr_isLost lo (nI j) = 0
  · simp only [if_pos hl]
  · simp only [if_neg hl]
theorem zl_plA_at (Mn : Nat) (sk : Nat → Int32) (yg : Int32) (sp : Nat) (fe th la kd : Nat → Int32) (lo : Int32) (s : (Nat → Int32) × Int32 × Int32 × Int32 × Int32 × Int32) : ∀ n a, a < n → ∃ w3 w4 w5 w6 w7, (zf (zl_plAG Mn sk yg sp fe th la kd lo) n 0 s).1 a = if zr_isLost lo (nI a) = 0 then (zr_safe Mn sk yg sp fe th la kd a w3 w4 w5 w6 w7).1 else 0
  | 0, a, h => absurd h (by omega)
  | n + 1, a, h => by
    rw [zf_last, Nat.zero_add]
    obtain ⟨w3, w4, w5, w6, w7, e⟩ := zl_plA_1 Mn sk yg sp fe th la kd lo n (zf (zl_plAG Mn sk yg sp fe th la kd lo) n 0 s)
    rw [e]
    by_cases han : a = n
    · subst han
      rw [pk_us]
      exact ⟨w3, w4, w5, w6, w7, rfl⟩
    · rw [pk_un han]
      exact zl_plA_at Mn sk yg sp fe th la kd lo s n a (by omega)
theorem zl_mlay_1 (n D Mn Gn : Nat) (r st : Nat → Int32) (j be : Nat) (wl : Int32) (row : Nat → Int32) (ou : Int32) (lt lw oo slp : Nat → Int32) :
    (zl_mlayG n D Mn Gn r st j (be, wl, row, ou, lt, lw, oo, slp)).1 = (if zr_misRow Mn Gn st j = 0 then be else if wl < zr_mworth Gn r (zr_mgo n D Gn r (zr_mbegin st row lt lw oo slp).2.2.2.2.2 (zf (zl_mlayIG Mn Gn st j) Gn 0 (zr_mbegin st row lt lw oo slp).1) (zr_mbegin st row lt lw oo slp).2.1 (zr_mbegin st row lt lw oo slp).2.2.1 (zr_mbegin st row lt lw oo slp).2.2.2.1 (zr_mbegin st row lt lw oo slp).2.2.2.2.1).1 then j else be) ∧ (zl_mlayG n D Mn Gn r st j (be, wl, row, ou, lt, lw, oo, slp)).2.1 = (if zr_misRow Mn Gn st j = 0 then wl else if wl < zr_mworth Gn r (zr_mgo n D Gn r (zr_mbegin st row lt lw oo slp).2.2.2.2.2 (zf (zl_mlayIG Mn Gn st j) Gn 0 (zr_mbegin st row lt lw oo slp).1) (zr_mbegin st row lt lw oo slp).2.1 (zr_mbegin st row lt lw oo slp).2.2.1 (zr_mbegin st row lt lw oo slp).2.2.2.1 (zr_mbegin st row lt lw oo slp).2.2.2.2.1).1 then zr_mworth Gn r (zr_mgo n D Gn r (zr_mbegin st row lt lw oo slp).2.2.2.2.2 (zf (zl_mlayIG Mn Gn st j) Gn 0 (zr_mbegin st row lt lw oo slp).1) (zr_mbegin st row lt lw oo slp).2.1 (zr_mbegin st row lt lw oo slp).2.2.1 (zr_mbegin st row lt lw oo slp).2.2.2.1 (zr_mbegin st row lt lw oo slp).2.2.2.2.1).1 else wl) := by
  unfold zl_mlayG
  show (if _ then _ else _ : Nat × _).1 = _ ∧ (if _ then _ else _ : Nat × Int32 × _).2.1 = _
  split
  · exact ⟨rfl, rfl⟩
  · split <;> exact ⟨rfl, rfl⟩
section ZY8
variable {D Mn Gn Un : Nat} {r20 r21 r22 r23 r24 r25 r26 r27 r28 r29 r30 r31 r71 r73 : Nat → Int32} {ys lo : Int32} {li th la st : Nat → Int32}
theorem zy_laidR (ht : zI_t D Mn Gn Un r20 r21 r22 r23 r24 r25 r26 r27 r28 r29 r30 r31 r71 r73) (hs : zI_s D Mn Gn ys lo li th la st) (l : Nat) {row2 : Nat → Int32} (h2 : ∀ i, i < 16 → row2 i = st i) (hz : ∀ a, a < Gn → 0 < zr_mdig Mn Gn l a → bt (st 14) a = false) (hdis : ∀ a b, a < Gn → b < Gn → a ≠ b → zr_mdig Mn Gn l a = zr_mdig Mn Gn l b → zr_mdig Mn Gn l a = 0) :
    zI_sw D Mn Gn ys lo (fun a => if bt (st 14) a = false then (if zr_mdig Mn Gn l a = 0 then -2 else nI (zr_mdig Mn Gn l a - 1)) else li a) th la (zf (zl_mlayIG Mn Gn st l) Gn 0 row2) := by
  have hM := ht.1.2.1
  have hG := ht.1.2.2.1
  obtain ⟨⟨Y, k1, k2, k3⟩, k4, k5, k6, k7, k8⟩ := hs
  have hat := zl_mlayI_at Mn Gn st l row2 Gn hG
  refine ⟨⟨Y, k1, k2, ?_⟩, ?_, ?_, ?_, ?_, ?_⟩
  · rw [hat, if_neg (by omega), h2 15 (by omega)]; exact k3
  · rw [hat, if_neg (by omega), h2 14 (by omega)]; exact k4
  · intro g hg
    have hd := zr_mdig_le Mn Gn l g
    simp only
    rw [hat, show 10 + g - 10 = g by omega]
    by_cases hb : bt (st 14) g = false
    · rw [if_pos ⟨by omega, by omega, hb⟩, if_pos hb]
      by_cases h0 : zr_mdig Mn Gn l g = 0
      · rw [if_pos h0, h0]
        exact Or.inl ⟨rfl, rfl⟩
      · rw [if_neg h0]
        exact Or.inr ⟨zr_mdig Mn Gn l g - 1, by omega, by rw [show zr_mdig Mn Gn l g - 1 + 1 = zr_mdig Mn Gn l g by omega], rfl⟩
    · rw [if_neg (fun z => hb z.2.2), if_neg hb, h2 _ (by omega)]
      exact k5 g hg
  · intro a b ha hb hab la2 lb2
    rw [hat 14, if_neg (by omega), h2 14 (by omega)] at la2 lb2
    rw [hat, hat, show 10 + a - 10 = a by omega, show 10 + b - 10 = b by omega, if_pos ⟨by omega, by omega, la2⟩, if_pos ⟨by omega, by omega, lb2⟩]
    intro he
    have hda := zr_mdig_le Mn Gn l a
    have hdb := zr_mdig_le Mn Gn l b
    rw [hdis a b ha hb hab ((nI_eq (by omega) (by omega)).mp he)]
    rfl
  · intro m hm
    rw [hat, if_neg (by omega), h2 _ (by omega)]
    exact k7 m hm
  · intro m hm
    rw [hat, if_neg (by omega), h2 _ (by omega)]
    exact k8 m hm
theorem zy_lay (ht : zI_t D Mn Gn Un r20 r21 r22 r23 r24 r25 r26 r27 r28 r29 r30 r31 r71 r73) (hs : zI_s D Mn Gn ys lo li th la st) {n Rn : Nat} (hn : n ≤ 60) (hR : (Mn + 1) ^ Gn = Rn) (r54 r55 r56 r86 row : Nat → Int32) (ou : Int32) (lt lw oo slp : Nat → Int32) (w3 w4 w5 w6 w7 : Int32) :
    ∃ l, l ≤ Rn ∧ (zr_mlay n Rn D Mn Gn r71 st row ou lt lw oo slp).1 = nI l ∧ (∀ a, a < Gn → (zr_plan D Mn Gn n r21 r22 r27 th la r23 r26 ys lo r54 r55 r56 r86 w3 w4 w5 w6 w7).2.1 a = nI (zr_mdig Mn Gn l a)) ∧ (zr_mlay n Rn D Mn Gn r71 st row ou lt lw oo slp).2.1 = (zr_plan D Mn Gn n r21 r22 r27 th la r23 r26 ys lo r54 r55 r56 r86 w3 w4 w5 w6 w7).1 := by
  have hM := ht.1.2.1
  have hG := ht.1.2.2.1
  unfold zr_mlay zr_plan
  simp only
  obtain ⟨sf, hsf⟩ : ∃ sf, sf = (zf (zl_plAG Mn (zf (zl_aimG D r21 r22 ys) n 1 r54) ys n r27 th la r23 lo) Gn 0 (r55, w3, w4, w5, w6, w7)).1 := ⟨_, rfl⟩
  rw [← hsf]
  have hsb : ∀ a, a < Gn → ∀ d, d < 32 → bt (sf a) d = (if bt (st 14) a = false then decide ((d = 0 ∧ ¬ (zr_follow (zf (zl_aimG D r21 r22 ys) n 1 r54) ys n (r27 a) 0 0 0).1 = 0) ∨ ∃ m, m < Mn ∧ d = m + 1 ∧ ¬ (zr_follow (zf (zl_aimG D r21 r22 ys) n 1 r54) ys n (r27 a) (la m) ((zr_heldOff (r23 m) (th m) 1) &&& (0 ^^^ (-1))) ((zr_heldOff (r23 m) (th m) 2) &&& (0 ^^^ (-1)))).1 = 0) else false) := by
    intro a ha d hd
    obtain ⟨x3, x4, x5, x6, x7, e⟩ := zl_plA_at Mn (zf (zl_aimG D r21 r22 ys) n 1 r54) ys n r27 th la r23 lo (r55, w3, w4, w5, w6, w7) Gn a ha
    rw [hsf, e, hs.2.1]
    by_cases hb : bt (st 14) a = false
    · rw [if_pos ((zt_il0 _ (by omega)).mpr hb), if_pos hb, zr_safe_at Mn hM _ _ _ _ _ _ _ _ _ _ _ _ _ hd]
    · rw [if_neg (fun z => hb ((zt_il0 _ (by omega)).mp z)), if_neg hb, b_0]
  clear hsf
  have hwr : ∀ a, a < Gn → ∃ W, W ≤ 99 ∧ r26 a = nI W := fun a ha => by
    obtain ⟨⟨e1, _⟩, ⟨W, _, h2, h3⟩, _⟩ := ht.2.2.2.2.2.2.1 a ha
    exact ⟨W, h2, e1.trans h3⟩
  have hls : ∀ a, a < Gn → bt (st 14) a = true → ∀ d, d < 32 → bt (sf a) d = false := fun a ha hb d hd => by
    rw [hsb a ha d hd, if_neg (by rw [hb]; decide)]
  have key := zf_rel (G := zl_mlayG n D Mn Gn r71 st) (H := zyl_A Mn Gn st sf r26) (P := fun _ s t => s.1 = t.1 ∧ s.2.1 = t.2) Rn 0 (0, -1, row, ou, lt, lw, oo, slp) (0, -1) ⟨rfl, rfl⟩ ?_
  · have rows := zy_rows (st := st) hM hG hls hwr Gn 0 0 0 0 (0, -1) r56 r86 (-1) (by omega) (fun d _ => by rw [b_0]; exact ⟨(fun z => by cases z), (fun z => by obtain ⟨_, a, ha, _⟩ := z; exact absurd ha (by omega))⟩) (fun a ha => absurd ha (by omega)) (fun a b ha => absurd ha (by omega)) rfl (fun a ha => absurd ha (by omega)) ⟨rfl, Nat.zero_le _, (show (-1 : Int32) ≤ -1 by decide), (fun l hl => absurd hl (by rw [Nat.zero_mul]; omega)), Or.inl rfl⟩
    have hRR := rows.2
    rw [Nat.zero_mul, Nat.zero_add, Nat.one_mul, hR] at hRR
    obtain ⟨q1, q2, q3, q4, q5⟩ := hRR
    refine ⟨_, ?_, congrArg nI key.1, ?_, key.2.trans q1⟩
    · exact q2
    · rcases q5 with q5 | q5
      · exfalso
        have hR0 : 0 < Rn := by rw [← hR]; exact Nat.pow_pos (by omega)
        have hd0 : ∀ a, zr_mdig Mn Gn 0 a = 0 := fun a => by unfold zr_mdig; rw [Nat.zero_div, Nat.zero_mod]
        have h0 := q4 0 hR0 ⟨(fun a _ z => by rw [hd0] at z; omega), (fun a b _ _ _ _ => hd0 a)⟩
        obtain ⟨X, Y, x1, _, x3, x4⟩ := zyl_sum (f := fun a => if bt (sf a) (zr_mdig Mn Gn 0 a) = true then r26 a else 0) (h := fun a => if bt (sf a) (zr_mdig Mn Gn 0 a) = true then r26 a else 0) Gn hG (fun a ha => by
          obtain ⟨W, hW, hw⟩ := hwr a ha
          exact ⟨_, _, zy_ib _ hw, zy_ib _ hw, Nat.le_refl _, (by split <;> omega)⟩)
        have h1 : zyl_W Mn Gn sf r26 0 = nI X := x1
        rw [h1, q5] at h0
        exact absurd (Int32.le_trans (nI_pos' (show X < 2 ^ 31 by omega)) h0) (by decide)
      · exact q5
  · intro j s t _ hj hp
    obtain ⟨be, wl, row, ou, lt, lw, oo, slp⟩ := s
    obtain ⟨be2, wl2⟩ := t
    obtain ⟨p1, p2⟩ := hp
    have p1 : be = be2 := p1
    have p2 : wl = wl2 := p2
    subst p1
    subst p2
    obtain ⟨m1, m2⟩ := zl_mlay_1 n D Mn Gn r71 st j be wl row ou lt lw oo slp
    rw [m1, m2]
    unfold zyl_A
    dsimp only
    rcases zy_isRow hM hG st j with ⟨q1, q3, q4⟩ | ⟨q1, q2⟩
    · rw [q1]
      rw [if_neg (show ¬ (1 : Int32) = 0 by decide), if_neg (show ¬ (1 : Int32) = 0 by decide), if_neg (show ¬ (1 : Int32) = 0 by decide)]
      have hs2 := zy_laidR ht hs j (row2 := (zr_mbegin st row lt lw oo slp).1) (fun i hi => zr_mbegin_row _ _ _ _ _ _ hi) q3 q4
      have hwo : zr_mworth Gn r71 (zr_mgo n D Gn r71 (zr_mbegin st row lt lw oo slp).2.2.2.2.2 (zf (zl_mlayIG Mn Gn st j) Gn 0 (zr_mbegin st row lt lw oo slp).1) (zr_mbegin st row lt lw oo slp).2.1 (zr_mbegin st row lt lw oo slp).2.2.1 (zr_mbegin st row lt lw oo slp).2.2.2.1 (zr_mbegin st row lt lw oo slp).2.2.2.2.1).1 = zs Gn (fun a => if bt (sf a) (zr_mdig Mn Gn j a) = true then r26 a else 0) := by
        unfold zr_mworth zs
        refine zf_congr Gn 0 0 (fun a s _ ha => ?_)
        have ha : a < Gn := by omega
        have hda := zr_mdig_le Mn Gn j a
        unfold zl_mworthG
        simp only
        have hg := zy_gone ht hs2 (fun f hf => zr_mbegin_s st row lt lw oo slp hf) hn r54 (zr_mbegin st row lt lw oo slp).2.1 (zr_mbegin st row lt lw oo slp).2.2.1 (zr_mbegin st row lt lw oo slp).2.2.2.1 (zr_mbegin st row lt lw oo slp).2.2.2.2.1 ha
        have hq : (zq_c (zf (zl_aimG D r21 r22 ys) n 1 r54) ys n r27 th la r23 (fun _ => 0) (fun a => if bt (st 14) a = false then (if zr_mdig Mn Gn j a = 0 then -2 else nI (zr_mdig Mn Gn j a - 1)) else li a) lo a).1 = bt (sf a) (zr_mdig Mn Gn j a) := by
          rw [hsb a ha _ (by omega)]
          by_cases hb : bt (st 14) a = false
          · rw [if_pos hb, zq_c_at (by rw [hs.2.1]; exact hb)]
            unfold zq_l zq_P zq_e
            simp only [if_pos hb]
            apply decide_eq_decide.mpr
            by_cases h0 : zr_mdig Mn Gn j a = 0
            · rw [if_pos h0, if_pos (show (-2 : Int32) < 0 by decide), if_pos (show (-2 : Int32) < 0 by decide), if_pos (show (-2 : Int32) < 0 by decide)]
              constructor
              · exact fun h => Or.inl ⟨h0, h⟩
              · rintro (h | ⟨m, _, h, _⟩)
                · exact h.2
                · omega
            · rw [if_neg h0, if_neg (show ¬ nI (zr_mdig Mn Gn j a - 1) < 0 from nI_pos (by omega)), if_neg (show ¬ nI (zr_mdig Mn Gn j a - 1) < 0 from nI_pos (by omega)), if_neg (show ¬ nI (zr_mdig Mn Gn j a - 1) < 0 from nI_pos (by omega)), nI_clamp (show zr_mdig Mn Gn j a - 1 < 2 ^ 31 by omega)]
              constructor
              · exact fun h => Or.inr ⟨zr_mdig Mn Gn j a - 1, by omega, by omega, h⟩
              · rintro (h | ⟨m, _, h, h'⟩)
                · exact absurd h.1 h0
                · rw [show zr_mdig Mn Gn j a - 1 = m by omega]
                  exact h'
          · rw [if_neg hb]
            unfold zq_c
            rw [if_pos (by rw [hs.2.1]; exact (Bool.not_eq_false _).mp hb)]
        rw [hq] at hg
        rw [← (ht.2.2.2.2.2.2.1 a ha).1.1]
        cases hbb : bt (sf a) (zr_mdig Mn Gn j a) with
        | true =>
          rw [hbb] at hg
          rw [if_pos ((zt_hb0 _ (by omega)).mpr hg), if_pos rfl]
        | false =>
          rw [hbb] at hg
          rw [if_neg (fun z => by rw [zt_hb0 _ (by omega), hg] at z; cases z), if_neg (by decide)]
      rw [hwo]
      unfold zyl_W
      generalize zs Gn (fun a => if bt (sf a) (zr_mdig Mn Gn j a) = true then r26 a else 0) = W
      by_cases hc : wl < W
      · rw [if_pos hc, if_pos hc, if_pos hc]
        exact ⟨rfl, rfl⟩
      · rw [if_neg hc, if_neg hc, if_neg hc]
        exact ⟨rfl, rfl⟩
    · rw [if_pos q1, if_pos q1, if_pos q1]
      exact ⟨rfl, rfl⟩
end ZY8
theorem zy_Rn {Mn Gn : Nat} (hM : Mn ≤ 5) (hG : Gn ≤ 4) : (Mn + 1) ^ Gn ≤ 1296 := Nat.le_trans (Nat.pow_le_pow_left (show Mn + 1 ≤ 6 by omega) Gn) (Nat.le_trans (Nat.pow_le_pow_right (by decide) hG) (by decide))
theorem zy_lat (pl : Nat → Int32) {a d : Nat} (hd : d ≤ 5) (h : pl a = nI d) : zr_mlayAt2 (nI d) = zr_planned pl a := by
  unfold zr_mlayAt2 zr_planned
  rw [h]
  by_cases h0 : d = 0
  · rw [if_pos (by rw [h0]; rfl), if_pos (by rw [h0]; decide)]
  · rw [if_neg (nI_ne0 (by omega) (by omega)), if_neg ((by decide +kernel : ∀ k, k < 6 → ¬ k = 0 → ¬ nI k ≤ 0) d (by omega) h0)]
section ZTI
variable {Ls : Nat} {xs : Nat → Int32} {v : Nat → Nat → Int32} {w : Nat → Nat → Int64} {t : zk_H}
theorem zT_lay (h : zJ v w) (x : Int32) : zT Ls xs v w t 231 263 [.int x] := by
  rcases h.st with hst | hst
  · exact zT.mk (zK_lay_t x hst) (zM_lay_t (v := zb v 0 (upd (v 0) 10 1)) x (h.lv.trans hst)) rfl (by exact zJ.of 1 (by decide) h.1 rfl rfl)
  · obtain ⟨_, _, _, _, h46, _, D, Mn, Gn, Un, ht, hs, _, hz⟩ := h.1
    rcases zt_win x 1 30 (by decide) (by decide) with ⟨ho, hw⟩ | ⟨n, h1, h2, rfl, hw⟩
    · exact zT.mk (zK_lay_o x hst ho) (zM_lay_o (v := zb v 0 (upd (v 0) 10 2)) x (h.lv.trans hst) hw) rfl (by exact zJ.of 2 (by decide) h.1 rfl rfl)
    · obtain ⟨l, hl1, hl2, hl3, hl4⟩ := zy_lay ht hs (show n ≤ 60 by omega) rfl (v 54) (v 55) (v 56) (v 86) (v 76) (v 68 26) (v 80) (v 81) (v 82) (v 79) (v 53 3) (v 53 4) (v 53 5) (v 53 6) (v 53 7)
      exact zT.mk (zK_lay_f hst D ht.2.1.1 ht.1.1 Mn ht.2.1.2.2.1 ht.1.2.1 Gn ht.2.1.2.2.2.2.1 ht.1.2.2.1 ht.2.2.2.2.1 n h1 h2) (zM_lay_f (v := (zb (zb (zb (zb (zb (zb (zb v 0 (upd (v 0) 10 0)) 52 (upd (v 52) 4 ((zr_plan D Mn Gn n (v 21) (v 22) (v 27) (v 34) (v 35) (v 23) (v 26) (v 32 0) (v 32 1) (v 54) (v 55) (v 56) (v 86) (v 53 3) (v 53 4) (v 53 5) (v 53 6) (v 53 7)).1))) 53 (upd (upd (upd (upd (upd (upd (upd (v 53) 0 ((zr_plan D Mn Gn n (v 21) (v 22) (v 27) (v 34) (v 35) (v 23) (v 26) (v 32 0) (v 32 1) (v 54) (v 55) (v 56) (v 86) (v 53 3) (v 53 4) (v 53 5) (v 53 6) (v 53 7)).2.2.2.2.1)) 1 ((zr_plan D Mn Gn n (v 21) (v 22) (v 27) (v 34) (v 35) (v 23) (v 26) (v 32 0) (v 32 1) (v 54) (v 55) (v 56) (v 86) (v 53 3) (v 53 4) (v 53 5) (v 53 6) (v 53 7)).2.2.2.2.2.1)) 3 ((zr_plan D Mn Gn n (v 21) (v 22) (v 27) (v 34) (v 35) (v 23) (v 26) (v 32 0) (v 32 1) (v 54) (v 55) (v 56) (v 86) (v 53 3) (v 53 4) (v 53 5) (v 53 6) (v 53 7)).2.2.2.2.2.2.2.1)) 4 ((zr_plan D Mn Gn n (v 21) (v 22) (v 27) (v 34) (v 35) (v 23) (v 26) (v 32 0) (v 32 1) (v 54) (v 55) (v 56) (v 86) (v 53 3) (v 53 4) (v 53 5) (v 53 6) (v 53 7)).2.2.2.2.2.2.2.2.1)) 5 ((zr_plan D Mn Gn n (v 21) (v 22) (v 27) (v 34) (v 35) (v 23) (v 26) (v 32 0) (v 32 1) (v 54) (v 55) (v 56) (v 86) (v 53 3) (v 53 4) (v 53 5) (v 53 6) (v 53 7)).2.2.2.2.2.2.2.2.2.1)) 6 ((zr_plan D Mn Gn n (v 21) (v 22) (v 27) (v 34) (v 35) (v 23) (v 26) (v 32 0) (v 32 1) (v 54) (v 55) (v 56) (v 86) (v 53 3) (v 53 4) (v 53 5) (v 53 6) (v 53 7)).2.2.2.2.2.2.2.2.2.2.1)) 7 ((zr_plan D Mn Gn n (v 21) (v 22) (v 27) (v 34) (v 35) (v 23) (v 26) (v 32 0) (v 32 1) (v 54) (v 55) (v 56) (v 86) (v 53 3) (v 53 4) (v 53 5) (v 53 6) (v 53 7)).2.2.2.2.2.2.2.2.2.2.2))) 54 ((zr_plan D Mn Gn n (v 21) (v 22) (v 27) (v 34) (v 35) (v 23) (v 26) (v 32 0) (v 32 1) (v 54) (v 55) (v 56) (v 86) (v 53 3) (v 53 4) (v 53 5) (v 53 6) (v 53 7)).2.2.2.2.2.2.1)) 55 ((zr_plan D Mn Gn n (v 21) (v 22) (v 27) (v 34) (v 35) (v 23) (v 26) (v 32 0) (v 32 1) (v 54) (v 55) (v 56) (v 86) (v 53 3) (v 53 4) (v 53 5) (v 53 6) (v 53 7)).2.2.1)) 56 ((zr_plan D Mn Gn n (v 21) (v 22) (v 27) (v 34) (v 35) (v 23) (v 26) (v 32 0) (v 32 1) (v 54) (v 55) (v 56) (v 86) (v 53 3) (v 53 4) (v 53 5) (v 53 6) (v 53 7)).2.2.2.1)) 86 ((zr_plan D Mn Gn n (v 21) (v 22) (v 27) (v 34) (v 35) (v 23) (v 26) (v 32 0) (v 32 1) (v 54) (v 55) (v 56) (v 86) (v 53 3) (v 53 4) (v 53 5) (v 53 6) (v 53 7)).2.1))) (h.lv.trans hst) D ht.2.1.2.1 ht.1.1 Gn ht.2.1.2.2.2.2.2.1 ht.1.2.2.1 (zy_ev ht) (zy_lie ht hs) Mn ht.2.1.2.2.2.1 ht.1.2.1 n (by omega) ((Mn + 1) ^ Gn) rfl (zy_Rn ht.1.2.1 ht.1.2.2.1) hw) hl4 (by exact zJ.of 0 (by decide) h.1 rfl rfl)
theorem zT_layAt (h : zJ v w) (x y : Int32) : zT Ls xs v w t 232 264 [.int x, .int y] := by
  obtain ⟨_, _, _, _, h46, _, D, Mn, Gn, Un, ht, hs, _, hz⟩ := h.1
  rcases zt_isX h.st (show Gn ≤ 8 by have := ht.1.2.2.1; omega) x with ⟨hx, hg⟩ | ⟨hst, a, ha, rfl, hg⟩
  · rw [← ht.2.1.2.2.2.2.1] at hx
    rw [← h.lv, ← ht.2.1.2.2.2.2.2.1] at hg
    exact zT.mk (zK_layAt_t x hx y) (zM_layAt_t (v := zb v 0 (upd (v 0) 10 1)) x y hg) rfl (by exact zJ.of 1 (by decide) h.1 rfl rfl)
  · rw [← h.lv, ← ht.2.1.2.2.2.2.2.1] at hg
    rcases zt_win y 1 30 (by decide) (by decide) with ⟨ho, hw⟩ | ⟨n, h1, h2, rfl, hw⟩
    · exact zT.mk (zK_layAt_o hst Gn ht.2.1.2.2.2.2.1 ht.1.2.2.1 a ha y ho) (zM_layAt_o (v := zb v 0 (upd (v 0) 10 2)) (nI a) y hg hw) rfl (by exact zJ.of 2 (by decide) h.1 rfl rfl)
    · obtain ⟨l, hl1, hl2, hl3, hl4⟩ := zy_lay ht hs (show n ≤ 60 by omega) rfl (v 54) (v 55) (v 56) (v 86) (v 76) (v 68 26) (v 80) (v 81) (v 82) (v 79) (v 53 3) (v 53 4) (v 53 5) (v 53 6) (v 53 7)
      have hl31 : l < 2 ^ 31 := by have := zy_Rn ht.1.2.1 ht.1.2.2.1; omega
      exact zT.mk (zK_layAt_f hst D ht.2.1.1 ht.1.1 Mn ht.2.1.2.2.1 ht.1.2.1 Gn ht.2.1.2.2.2.2.1 ht.1.2.2.1 ht.2.2.2.2.1 n h1 h2 a ha) (zM_layAt_f (v := (zb (zb (zb (zb (zb (zb (zb v 0 (upd (v 0) 10 0)) 52 (upd (v 52) 4 ((zr_plan D Mn Gn n (v 21) (v 22) (v 27) (v 34) (v 35) (v 23) (v 26) (v 32 0) (v 32 1) (v 54) (v 55) (v 56) (v 86) (v 53 3) (v 53 4) (v 53 5) (v 53 6) (v 53 7)).1))) 53 (upd (upd (upd (upd (upd (upd (upd (v 53) 0 ((zr_plan D Mn Gn n (v 21) (v 22) (v 27) (v 34) (v 35) (v 23) (v 26) (v 32 0) (v 32 1) (v 54) (v 55) (v 56) (v 86) (v 53 3) (v 53 4) (v 53 5) (v 53 6) (v 53 7)).2.2.2.2.1)) 1 ((zr_plan D Mn Gn n (v 21) (v 22) (v 27) (v 34) (v 35) (v 23) (v 26) (v 32 0) (v 32 1) (v 54) (v 55) (v 56) (v 86) (v 53 3) (v 53 4) (v 53 5) (v 53 6) (v 53 7)).2.2.2.2.2.1)) 3 ((zr_plan D Mn Gn n (v 21) (v 22) (v 27) (v 34) (v 35) (v 23) (v 26) (v 32 0) (v 32 1) (v 54) (v 55) (v 56) (v 86) (v 53 3) (v 53 4) (v 53 5) (v 53 6) (v 53 7)).2.2.2.2.2.2.2.1)) 4 ((zr_plan D Mn Gn n (v 21) (v 22) (v 27) (v 34) (v 35) (v 23) (v 26) (v 32 0) (v 32 1) (v 54) (v 55) (v 56) (v 86) (v 53 3) (v 53 4) (v 53 5) (v 53 6) (v 53 7)).2.2.2.2.2.2.2.2.1)) 5 ((zr_plan D Mn Gn n (v 21) (v 22) (v 27) (v 34) (v 35) (v 23) (v 26) (v 32 0) (v 32 1) (v 54) (v 55) (v 56) (v 86) (v 53 3) (v 53 4) (v 53 5) (v 53 6) (v 53 7)).2.2.2.2.2.2.2.2.2.1)) 6 ((zr_plan D Mn Gn n (v 21) (v 22) (v 27) (v 34) (v 35) (v 23) (v 26) (v 32 0) (v 32 1) (v 54) (v 55) (v 56) (v 86) (v 53 3) (v 53 4) (v 53 5) (v 53 6) (v 53 7)).2.2.2.2.2.2.2.2.2.2.1)) 7 ((zr_plan D Mn Gn n (v 21) (v 22) (v 27) (v 34) (v 35) (v 23) (v 26) (v 32 0) (v 32 1) (v 54) (v 55) (v 56) (v 86) (v 53 3) (v 53 4) (v 53 5) (v 53 6) (v 53 7)).2.2.2.2.2.2.2.2.2.2.2))) 54 ((zr_plan D Mn Gn n (v 21) (v 22) (v 27) (v 34) (v 35) (v 23) (v 26) (v 32 0) (v 32 1) (v 54) (v 55) (v 56) (v 86) (v 53 3) (v 53 4) (v 53 5) (v 53 6) (v 53 7)).2.2.2.2.2.2.1)) 55 ((zr_plan D Mn Gn n (v 21) (v 22) (v 27) (v 34) (v 35) (v 23) (v 26) (v 32 0) (v 32 1) (v 54) (v 55) (v 56) (v 86) (v 53 3) (v 53 4) (v 53 5) (v 53 6) (v 53 7)).2.2.1)) 56 ((zr_plan D Mn Gn n (v 21) (v 22) (v 27) (v 34) (v 35) (v 23) (v 26) (v 32 0) (v 32 1) (v 54) (v 55) (v 56) (v 86) (v 53 3) (v 53 4) (v 53 5) (v 53 6) (v 53 7)).2.2.2.1)) 86 ((zr_plan D Mn Gn n (v 21) (v 22) (v 27) (v 34) (v 35) (v 23) (v 26) (v 32 0) (v 32 1) (v 54) (v 55) (v 56) (v 86) (v 53 3) (v 53 4) (v 53 5) (v 53 6) (v 53 7)).2.1))) a hg D ht.2.1.2.1 ht.1.1 Gn ht.2.1.2.2.2.2.2.1 ht.1.2.2.1 (zy_ev ht) (zy_lie ht hs) Mn ht.2.1.2.2.2.1 ht.1.2.1 n (by omega) ((Mn + 1) ^ Gn) rfl (zy_Rn ht.1.2.1 ht.1.2.2.1) hw ha l hl31 hl2 (zr_mdig Mn Gn l a) rfl) (zy_lat _ (by have := zr_mdig_le Mn Gn l a; have := ht.1.2.1; omega) (hl3 a ha)) (by exact zJ.of 0 (by decide) h.1 rfl rfl)
end ZTI
