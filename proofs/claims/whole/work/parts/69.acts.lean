/-! ties: acts -/
theorem zr_save_at (ro : Nat → Int32) (b : Nat) (ye lo : Int32) (li th la : Nat → Int32) (x : Nat) : zr_save ro b ye lo li th la x = if x = b then ye else if x = b + 1 then lo else if b + 2 ≤ x ∧ x < b + 6 then li (x - (b + 2)) else if b + 6 ≤ x ∧ x < b + 11 then th (x - (b + 6)) else if b + 11 ≤ x ∧ x < b + 16 then la (x - (b + 11)) else ro x := by
  unfold zr_save
  by_cases h1 : b + 11 ≤ x ∧ x < b + 16
  · rw [pk_cpy_in (by omega) (by omega), if_neg (by omega), if_neg (by omega), if_neg (by omega), if_neg (by omega), if_pos h1, Nat.zero_add]
  · rw [pk_cpy_out (by omega)]
    by_cases h2 : b + 6 ≤ x ∧ x < b + 11
    · rw [pk_cpy_in (by omega) (by omega), if_neg (by omega), if_neg (by omega), if_neg (by omega), if_pos h2, Nat.zero_add]
    · rw [pk_cpy_out (by omega)]
      by_cases h3 : b + 2 ≤ x ∧ x < b + 6
      · rw [pk_cpy_in (by omega) (by omega), if_neg (by omega), if_neg (by omega), if_pos h3, Nat.zero_add]
      · rw [pk_cpy_out (by omega), if_neg h3, if_neg h2, if_neg h1]
        by_cases h4 : x = b + 1
        · rw [h4, pk_us, if_neg (by omega), if_pos rfl]
        · rw [pk_un h4, if_neg h4]
          by_cases h5 : x = b
          · rw [h5, pk_us, if_pos rfl]
          · rw [pk_un h5, if_neg h5]
theorem zl_cpSu_at (fr to : Nat → Int32) (b : Nat) : ∀ (n k : Nat) (x : Nat), zf (zl_cpSuG fr b) n k to x = if b + k ≤ x ∧ x < b + k + n then fr (x - b) else to x := by
  intro n
  induction n generalizing to with
  | zero => intro k x; rw [if_neg (by omega)]; rfl
  | succ n ih =>
    intro k x
    rw [zf_succ, ih]
    have e : zl_cpSuG fr b k to = upd to (b + k) (fr k) := by
      unfold zl_cpSuG
      simp only [Nat.zero_add]
    rw [e]
    by_cases h : x = b + k
    · subst h
      rw [if_neg (by omega), if_pos (by omega), pk_us, Nat.add_sub_cancel_left]
    · rw [pk_un h]
      by_cases h2 : b + (k + 1) ≤ x ∧ x < b + (k + 1) + n
      · rw [if_pos h2, if_pos (by omega)]
      · rw [if_neg h2, if_neg (by omega)]
theorem zr_cpSu_at (fr to : Nat → Int32) (b x : Nat) : zr_cpSu fr to b x = if b ≤ x ∧ x < b + 16 then fr (x - b) else to x := by
  have h := zl_cpSu_at fr to b 16 0 x
  exact h
theorem zr_cpSk_at (fr to : Nat → Int32) (b x : Nat) : zr_cpSk fr to b x = if b ≤ x ∧ x < b + 16 then fr (x - b) else to x := zr_cpSu_at fr to b x
theorem zl_cpUs_at (fr to : Nat → Int32) (b : Nat) : ∀ (n k : Nat) (x : Nat), zf (zl_cpUsG fr b) n k to x = if k ≤ x ∧ x < k + n then fr (b + x) else to x := by
  intro n
  induction n generalizing to with
  | zero => intro k x; rw [if_neg (by omega)]; rfl
  | succ n ih =>
    intro k x
    rw [zf_succ, ih]
    have e : zl_cpUsG fr b k to = upd to k (fr (b + k)) := by
      unfold zl_cpUsG
      simp only [Nat.zero_add]
    rw [e]
    by_cases h : x = k
    · subst h
      rw [if_neg (by omega), if_pos (by omega), pk_us]
    · rw [pk_un h]
      by_cases h2 : k + 1 ≤ x ∧ x < k + 1 + n
      · rw [if_pos h2, if_pos (by omega)]
      · rw [if_neg h2, if_neg (by omega)]
theorem zr_cpUs_at (fr to : Nat → Int32) (b : Nat) {x : Nat} (hx : x < 16) : zr_cpUs fr to b x = fr (b + x) := by
  have h := zl_cpUs_at fr to b 16 0 x
  rw [if_pos (by omega)] at h
  exact h
theorem zr_cpKs_at (fr to : Nat → Int32) (b : Nat) {x : Nat} (hx : x < 16) : zr_cpKs fr to b x = fr (b + x) := zr_cpUs_at fr to b hx
theorem zl_mnote_at (un : Nat → Int32) : ∀ (n k : Nat) (x : Nat), zf zl_mnoteG n k un x = if k ≤ x ∧ x < k + n then un (x + 16) else un x := by
  intro n
  induction n generalizing un with
  | zero => intro k x; rw [if_neg (by omega)]; rfl
  | succ n ih =>
    intro k x
    rw [zf_succ, ih]
    have e : zl_mnoteG k un = upd un k (un (k + 16)) := rfl
    rw [e]
    by_cases h2 : k + 1 ≤ x ∧ x < k + 1 + n
    · rw [if_pos h2, if_pos (by omega), pk_un (by omega)]
    · rw [if_neg h2]
      by_cases h : x = k
      · subst h
        rw [pk_us, if_pos (by omega)]
      · rw [pk_un h, if_neg (by omega)]
theorem zI_s_ext {D Mn Gn : Nat} {ys lo ys' lo' : Int32} {li th la row li' th' la' row' : Nat → Int32} (hM : Mn ≤ 5) (hG : Gn ≤ 4) (h : zI_s D Mn Gn ys lo li th la row) (e1 : ys' = ys) (e2 : lo' = lo) (e3 : ∀ g, g < 4 → li' g = li g) (e4 : ∀ m, m < 5 → th' m = th m) (e5 : ∀ m, m < 5 → la' m = la m) (e6 : ∀ i, i < 16 → row' i = row i) : zI_s D Mn Gn ys' lo' li' th' la' row' := by
  obtain ⟨⟨Y, h1, h2, h3⟩, h4, h5, h6, h7, h8⟩ := h
  refine ⟨⟨Y, h1, e1.trans h2, (e6 15 (by omega)).trans h3⟩, (e2.trans h4).trans (e6 14 (by omega)).symm, ?_, ?_, ?_, ?_⟩
  · intro g hg; rw [e6 _ (by omega), e3 g (by omega)]; exact h5 g hg
  · intro a b ha hb; rw [e6 _ (by omega), e6 _ (by omega)]; exact h6 a b ha hb
  · intro m hm; rw [e6 _ (by omega), e4 m (by omega)]; exact h7 m hm
  · intro m hm; rw [e6 _ (by omega), e5 m (by omega)]; exact h8 m hm
/-- how it is now is kept: an act -/
theorem zy_note {D Mn Gn : Nat} {r40 r41 r42 r77 r78 : Nat → Int32} {un im ys lo : Int32} {li th la st : Nat → Int32} (hM : Mn ≤ 5) (hG : Gn ≤ 4) {k p i : Nat} (hb : k ≤ 16 ∧ p < 16 ∧ i ≤ 3) (he : r40 2 = nI k ∧ un = nI k ∧ r40 1 = nI p ∧ r40 4 = nI i ∧ im = nI i)
    (hu : ∀ j, j < k → zI_r D Mn Gn r41 (((p + 15 - j) % 16) * 16) r77 (16 * (k - 1 - j))) (hi : ∀ j, j < i → zI_r D Mn Gn r42 (j * 16) r78 (16 * j)) (hs : zI_s D Mn Gn ys lo li th la st) {un' : Int32} {r77' : Nat → Int32} (hun : un' = nI (min (k + 1) 16)) (h77 : (k < 16 ∧ r77' = zr_cpSu st r77 (16 * k)) ∨ (k = 16 ∧ r77' = zr_cpSu st (zf zl_mnoteG 240 0 r77) 240)) :
    zI_h D Mn Gn (upd (upd r40 1 (nI ((p + 1) % 16))) 2 (nI (min (k + 1) 16))) (zr_save r41 (p * 16) ys lo li th la) r42 un' im r77' r78 := by
  obtain ⟨b1, b2, b3⟩ := hb
  obtain ⟨e1, e2, e3, e4, e5⟩ := he
  refine ⟨min (k + 1) 16, (p + 1) % 16, i, ⟨by omega, by omega, b3⟩, ⟨pk_us, hun, ?_, ?_, e5⟩, ?_, hi⟩
  · rw [pk_un (by decide), pk_us]
  · rw [pk_un (by decide), pk_un (by decide)]; exact e4
  · intro j hj
    have h77a : ∀ x, x < 16 → r77' (16 * (min (k + 1) 16 - 1) + x) = st x := by
      intro x hx
      rcases h77 with ⟨hk, e⟩ | ⟨hk, e⟩
      · rw [e, zr_cpSu_at, if_pos (by omega), show 16 * (min (k + 1) 16 - 1) + x - 16 * k = x by omega]
      · rw [e, zr_cpSu_at, if_pos (by omega), show 16 * (min (k + 1) 16 - 1) + x - 240 = x by omega]
    have h77b : ∀ j x, 1 ≤ j → j < min (k + 1) 16 → x < 16 → r77' (16 * (min (k + 1) 16 - 1 - j) + x) = r77 (16 * (k - 1 - (j - 1)) + x) := by
      intro j x hj1 hj2 hx
      rcases h77 with ⟨hk, e⟩ | ⟨hk, e⟩
      · rw [e, zr_cpSu_at, if_neg (by omega)]
        congr 1; omega
      · rw [e, zr_cpSu_at, if_neg (by omega), zl_mnote_at, if_pos (by omega)]
        congr 1; omega
    unfold zI_r
    by_cases hj0 : j = 0
    · subst hj0
      have hb : ((p + 1) % 16 + 15 - 0) % 16 * 16 = p * 16 := by
        have : ((p + 1) % 16 + 15 - 0) % 16 = p := by omega
        rw [this]
      rw [hb]
      refine zI_s_ext hM hG hs ?_ ?_ ?_ ?_ ?_ ?_
      · rw [zr_save_at, if_pos rfl]
      · rw [zr_save_at, if_neg (by omega), if_pos rfl]
      · intro g hg
        rw [zr_save_at, if_neg (by omega), if_neg (by omega), if_pos (by omega)]
        congr 1; omega
      · intro g hg
        rw [zr_save_at, if_neg (by omega), if_neg (by omega), if_neg (by omega), if_pos (by omega)]
        congr 1; omega
      · intro g hg
        rw [zr_save_at, if_neg (by omega), if_neg (by omega), if_neg (by omega), if_neg (by omega), if_pos (by omega)]
        congr 1; omega
      · intro x hx
        exact h77a x hx
    · have hb : ((p + 1) % 16 + 15 - j) % 16 = (p + 15 - (j - 1)) % 16 := by omega
      have hne : (p + 15 - (j - 1)) % 16 ≠ p := by omega
      obtain ⟨q, hq⟩ : ∃ q, q = (p + 15 - (j - 1)) % 16 := ⟨_, rfl⟩
      have h1 := hu (j - 1) (by omega)
      unfold zI_r at h1
      rw [hb]
      rw [← hq] at h1 hne ⊢
      have hsv : ∀ x, x < 16 → zr_save r41 (p * 16) ys lo li th la (q * 16 + x) = r41 (q * 16 + x) := by
        intro x hx
        rcases Nat.lt_or_gt_of_ne hne with hlt | hgt
        · have : q * 16 + 16 ≤ p * 16 := by omega
          rw [zr_save_at, if_neg (by omega), if_neg (by omega), if_neg (by omega), if_neg (by omega), if_neg (by omega)]
        · have : p * 16 + 16 ≤ q * 16 := by omega
          rw [zr_save_at, if_neg (by omega), if_neg (by omega), if_neg (by omega), if_neg (by omega), if_neg (by omega)]
      refine zI_s_ext hM hG h1 (hsv 0 (by omega)) (hsv 1 (by omega)) ?_ ?_ ?_ ?_
      · intro g hg
        have := hsv (2 + g) (by omega)
        rw [← Nat.add_assoc] at this
        exact this
      · intro g hg
        have := hsv (6 + g) (by omega)
        rw [← Nat.add_assoc] at this
        exact this
      · intro g hg
        have := hsv (11 + g) (by omega)
        rw [← Nat.add_assoc] at this
        exact this
      · intro x hx
        exact h77b j x (by omega) hj hx
theorem zy_16 {k : Nat} (hk : k ≤ 16) : k < 16 ∨ k = 16 := by omega
theorem zy_st1 {v : Nat → Nat → Int32} {A B : Prop} (hz : (v 0 2 = 0 ∧ A) ∨ (v 0 2 = 1 ∧ B)) (hst : v 0 2 = 1) : v 0 2 = 1 ∧ B := by
  rcases hz with hz | hz
  · rw [hz.1] at hst; exact absurd hst (by decide)
  · exact hz
theorem nx_xorI (a b : Nat) : nI a ^^^ nI b = nI (a ^^^ b) := by
  apply b_ext
  intro i hi
  rw [b_xor, zt_nI hi, zt_nI hi, zt_nI hi, Nat.testBit_xor]
section ZACT
variable {D Mn Gn : Nat} {ys lo : Int32} {li th la row : Nat → Int32}
theorem zy_put (hM : Mn ≤ 5) (hG : Gn ≤ 4) (hs : zI_s D Mn Gn ys lo li th la row) {a e : Nat} (ha : a < Gn) (he : e < Mn) (hno : ∀ j, j < Gn → ¬ li j = nI e) : zI_s D Mn Gn ys lo (upd li a (nI e)) th la (upd row (10 + a) (nI (e + 1))) := by
  obtain ⟨⟨Y, k1, k2, k3⟩, k4, k5, k6, k7, k8⟩ := hs
  have hno2 : ∀ j, j < Gn → ¬ row (10 + j) = nI (e + 1) := by
    intro j hj hz
    rcases k5 j hj with ⟨h1, _⟩ | ⟨f, hf, h1, h2⟩
    · rw [h1] at hz; exact nI_ne0 (show 0 < e + 1 by omega) (by omega) hz.symm
    · have := (nI_eq (show f + 1 < 2 ^ 31 by omega) (show e + 1 < 2 ^ 31 by omega)).mp (h1.symm.trans hz)
      exact hno j hj (by rw [h2, show f = e by omega])
  refine ⟨⟨Y, k1, k2, ?_⟩, ?_, ?_, ?_, ?_, ?_⟩
  · rw [pk_un (by omega)]; exact k3
  · rw [pk_un (by omega)]; exact k4
  · intro g hg
    by_cases hga : g = a
    · subst hga
      rw [pk_us, pk_us]
      exact Or.inr ⟨e, he, rfl, rfl⟩
    · rw [pk_un (by omega), pk_un hga]
      exact k5 g hg
  · intro b c hb hc hbc hz
    by_cases hba : b = a
    · subst hba
      rw [pk_us, pk_un (by omega)] at hz
      exact absurd hz.symm (hno2 c hc)
    · by_cases hca : c = a
      · subst hca
        rw [pk_us, pk_un (by omega)] at hz
        exact absurd hz (hno2 b hb)
      · rw [pk_un (by omega), pk_un (by omega)] at hz
        rw [pk_un (by omega)]
        exact k6 b c hb hc hbc hz
  · intro m hm; rw [pk_un (by omega)]; exact k7 m hm
  · intro m hm; rw [pk_un (by omega)]; exact k8 m hm
theorem zy_take (hM : Mn ≤ 5) (hG : Gn ≤ 4) (hs : zI_s D Mn Gn ys lo li th la row) {a : Nat} (ha : a < Gn) : zI_s D Mn Gn ys lo (upd li a (-2)) th la (upd row (10 + a) 0) := by
  obtain ⟨⟨Y, k1, k2, k3⟩, k4, k5, k6, k7, k8⟩ := hs
  refine ⟨⟨Y, k1, k2, ?_⟩, ?_, ?_, ?_, ?_, ?_⟩
  · rw [pk_un (by omega)]; exact k3
  · rw [pk_un (by omega)]; exact k4
  · intro g hg
    by_cases hga : g = a
    · subst hga
      rw [pk_us, pk_us]
      exact Or.inl ⟨rfl, rfl⟩
    · rw [pk_un (by omega), pk_un hga]
      exact k5 g hg
  · intro b c hb hc hbc hz
    by_cases hba : b = a
    · subst hba; exact pk_us
    · by_cases hca : c = a
      · subst hca
        rw [pk_us, pk_un (by omega)] at hz
        rw [pk_un (by omega)]; exact hz
      · rw [pk_un (by omega), pk_un (by omega)] at hz
        rw [pk_un (by omega)]
        exact k6 b c hb hc hbc hz
  · intro m hm; rw [pk_un (by omega)]; exact k7 m hm
  · intro m hm; rw [pk_un (by omega)]; exact k8 m hm
theorem zy_thinks (hM : Mn ≤ 5) (hG : Gn ≤ 4) (hD : D ≤ 8) (hs : zI_s D Mn Gn ys lo li th la row) {e d : Nat} (he : e < Mn) (hd : d < D) : zI_s D Mn Gn ys lo li (upd th e (th e ^^^ ((1 : Int32) <<< ((nI d) &&& 31)))) la (upd row (5 + e) (row (5 + e) ^^^ ((1 : Int32) <<< ((nI d) &&& 31)))) := by
  obtain ⟨⟨Y, k1, k2, k3⟩, k4, k5, k6, k7, k8⟩ := hs
  refine ⟨⟨Y, k1, k2, ?_⟩, ?_, ?_, ?_, ?_, ?_⟩
  · rw [pk_un (by omega)]; exact k3
  · rw [pk_un (by omega)]; exact k4
  · intro g hg; rw [pk_un (by omega)]; exact k5 g hg
  · intro b c hb hc; rw [pk_un (by omega), pk_un (by omega)]; exact k6 b c hb hc
  · intro m hm
    by_cases hme : m = e
    · subst hme
      obtain ⟨h1, T, hT, h2⟩ := k7 m hm
      rw [pk_us, pk_us, h1]
      refine ⟨rfl, T ^^^ 2 ^ d, Nat.xor_lt_two_pow hT (Nat.pow_lt_pow_right (by decide) hd), ?_⟩
      rw [h2, zk_shl1 d (by omega), nx_xorI]
    · rw [pk_un hme, pk_un (by omega)]
      exact k7 m hm
  · intro m hm; rw [pk_un (by omega)]; exact k8 m hm
theorem zy_mends (hM : Mn ≤ 5) (hG : Gn ≤ 4) (hs : zI_s D Mn Gn ys lo li th la row) {e L : Nat} (hL : L ≤ 30) : zI_s D Mn Gn ys lo li th (upd la e (nI L)) (upd row e (nI L)) ∨ ¬ e < Mn := by
  by_cases he : e < Mn
  · refine Or.inl ?_
    obtain ⟨⟨Y, k1, k2, k3⟩, k4, k5, k6, k7, k8⟩ := hs
    refine ⟨⟨Y, k1, k2, ?_⟩, ?_, ?_, ?_, ?_, ?_⟩
    · rw [pk_un (by omega)]; exact k3
    · rw [pk_un (by omega)]; exact k4
    · intro g hg; rw [pk_un (by omega)]; exact k5 g hg
    · intro b c hb hc; rw [pk_un (by omega), pk_un (by omega)]; exact k6 b c hb hc
    · intro m hm; rw [pk_un (by omega)]; exact k7 m hm
    · intro m hm
      by_cases hme : m = e
      · subst hme
        rw [pk_us, pk_us]
        exact ⟨rfl, L, hL, rfl⟩
      · rw [pk_un hme, pk_un hme]
        exact k8 m hm
  · exact Or.inr he
end ZACT
section ZTE
variable {Ls : Nat} {xs : Nat → Int32} {v : Nat → Nat → Int32} {w : Nat → Nat → Int64} {t : zk_H}
theorem zy_goodInN {Gn : Nat} {li : Nat → Int32} {m : Int32} (h : zr_goodIn Gn li m = -2) (hG : Gn ≤ 4) : ∀ j, j < Gn → ¬ li j = m := by
  intro j hj hz
  unfold zr_goodIn at h
  have hf2 := zfr_find (G := zl_goodInG li m) (S := fun _ => ()) (p := fun j => decide (li j = m)) (f := fun j => nI j) (N := Gn) (fun j _ => by
    unfold zl_goodInG
    by_cases h : li j = m
    · rw [if_pos h, if_pos (decide_eq_true h)]
    · rw [if_neg h, if_neg (by rw [decide_eq_false h]; decide)]) Gn 0 (by omega)
  rcases hf2 with ⟨_, k2⟩ | ⟨k, k1, k2, k3, _⟩
  · exact of_decide_eq_false (k2 j (Nat.zero_le _) (by omega)) hz
  · rw [k3] at h
    exact absurd h ((by decide +kernel : ∀ k, k < 4 → ¬ nI k = (-2 : Int32)) k (by omega))
theorem zT_put (h : zJ v w) (x y : Int32) : zT Ls xs v w t 210 174 [.int x, .int y] := by
  obtain ⟨hst0, hfl, htp, hr7, h46, hw16, D, Mn, Gn, Un, ht, hs, hh, hz⟩ := h.1
  rcases zt_isX h.st (show Gn ≤ 8 by have := ht.1.2.2.1; omega) x with ⟨hx, hg⟩ | ⟨hst, a, ha, rfl, hg⟩
  · rw [← ht.2.1.2.2.2.2.1] at hx
    rw [← h.lv, ← ht.2.1.2.2.2.2.2.1] at hg
    exact zT.mk (zK_put_t x hx y) (zM_put_t (v := zb v 0 (upd (v 0) 10 1)) x y hg) rfl (by exact zJ.of 1 (by decide) h.1 rfl rfl)
  · rw [← h.lv, ← ht.2.1.2.2.2.2.2.1] at hg
    rcases zt_isX h.st (show Mn ≤ 8 by have := ht.1.2.1; omega) y with ⟨hx, hg2⟩ | ⟨_, e, he, rfl, hg2⟩
    · rw [← ht.2.1.2.2.1] at hx
      rw [← h.lv, ← ht.2.1.2.2.2.1] at hg2
      exact zT.mk (zK_put_m hst Gn ht.2.1.2.2.2.2.1 ht.1.2.2.1 a ha y hx) (zM_put_m (v := zb v 0 (upd (v 0) 10 1)) (nI a) y hg hg2) rfl (by exact zJ.of 1 (by decide) h.1 rfl rfl)
    · rw [← h.lv, ← ht.2.1.2.2.2.1] at hg2
      have ha4 : a < 4 := (by have := ht.1.2.2.1; omega)
      have he5 : e < 5 := (by have := ht.1.2.1; omega)
      have hlo2 : v 32 1 = v 75 14 := hs.2.1
      by_cases hl : bt (v 75 14) a = true
      · exact zT.mk (zK_put_5a hst Gn ht.2.1.2.2.2.2.1 ht.1.2.2.1 a ha Mn ht.2.1.2.2.1 ht.1.2.1 e he (by rw [hlo2, zt_il _ (by omega), if_pos hl])) (zM_put_5a (v := zb v 0 (upd (v 0) 10 5)) a e ha4 he5 hg hg2 (by show zr_mhasBit (v 75 14) (nI a) = 1; rw [zt_hb _ (by omega), if_pos hl])) rfl (by exact zJ.of 5 (by decide) h.1 rfl rfl)
      · have hil : zr_isLost (v 32 1) (nI a) = 0 := by rw [hlo2]; exact (zt_il0 _ (by omega)).mpr (Bool.eq_false_iff.mpr hl)
        have hhb : zr_mhasBit (v 75 14) (nI a) = 0 := (zt_hb0 _ (by omega)).mpr (Bool.eq_false_iff.mpr hl)
        rcases zy_goodIn01 Gn (v 33) (nI e) with hq | ⟨q, hq1, hq, _⟩
        · have hno : ∀ j, j < Gn → ¬ v 33 j = nI e := zy_goodInN hq (by have := ht.1.2.2.1; omega)
          obtain ⟨k, p, i, ⟨hk16, hp16, hi3⟩, ⟨hk, hun, hp, hi, him⟩, hu, hima⟩ := hh
          rcases zy_16 hk16 with hlt | rfl
          · refine zT.mk (zK_put_f hst Gn ht.2.1.2.2.2.2.1 ht.1.2.2.1 a ha Mn ht.2.1.2.2.1 ht.1.2.1 e he hil (by rw [hq]; decide) p hp hp16 _ hk hk16) (zM_put_f (v := zb (zb (zb (zb v 0 (upd (v 0) 10 0)) 33 (upd (v 33) a (nI e))) 40 (upd (upd (v 40) 1 (nI ((p + 1) % 16))) 2 (nI (min (k + 1) 16)))) 41 (zr_save (v 41) (p * 16) (v 32 0) (v 32 1) (v 33) (v 34) (v 35))) a e ha4 he5 hg hg2 hhb Gn ht.2.1.2.2.2.2.2.1 ht.1.2.2.1 ((zy_goodIn ht.1.2.1 hs he).trans hq) k hun hlt) (zy_good2 ht.1.2.1 hs ha) ⟨⟨hst0, hfl, htp, hr7, h46, hw16, D, Mn, Gn, Un, ht, zy_put ht.1.2.1 ht.1.2.2.1 hs ha he hno, zy_note ht.1.2.1 ht.1.2.2.1 ⟨hk16, hp16, hi3⟩ ⟨hk, hun, hp, hi, him⟩ hu hima hs (show nI (k + 1) = _ by rw [show min (k + 1) 16 = k + 1 by omega]) (Or.inl ⟨hlt, rfl⟩), Or.inr (zy_st1 hz hst)⟩, rfl, fun z => absurd (show (0 : Int32) = 4 from z) (by decide)⟩
          · refine zT.mk (zK_put_f hst Gn ht.2.1.2.2.2.2.1 ht.1.2.2.1 a ha Mn ht.2.1.2.2.1 ht.1.2.1 e he hil (by rw [hq]; decide) p hp hp16 _ hk hk16) (zM_put_g (v := zb (zb (zb (zb v 0 (upd (v 0) 10 0)) 33 (upd (v 33) a (nI e))) 40 (upd (upd (v 40) 1 (nI ((p + 1) % 16))) 2 (nI (min (16 + 1) 16)))) 41 (zr_save (v 41) (p * 16) (v 32 0) (v 32 1) (v 33) (v 34) (v 35))) a e ha4 he5 hg hg2 hhb Gn ht.2.1.2.2.2.2.2.1 ht.1.2.2.1 ((zy_goodIn ht.1.2.1 hs he).trans hq) hun) (zy_good2 ht.1.2.1 hs ha) ⟨⟨hst0, hfl, htp, hr7, h46, hw16, D, Mn, Gn, Un, ht, zy_put ht.1.2.1 ht.1.2.2.1 hs ha he hno, zy_note ht.1.2.1 ht.1.2.2.1 ⟨hk16, hp16, hi3⟩ ⟨hk, hun, hp, hi, him⟩ hu hima hs rfl (Or.inr ⟨rfl, rfl⟩), Or.inr (zy_st1 hz hst)⟩, rfl, fun z => absurd (show (0 : Int32) = 4 from z) (by decide)⟩
        · exact zT.mk (zK_put_5b hst Gn ht.2.1.2.2.2.2.1 ht.1.2.2.1 a ha Mn ht.2.1.2.2.1 ht.1.2.1 e he hil (by rw [hq]; exact nI_pos (by have := ht.1.2.2.1; omega))) (zM_put_5b (v := zb v 0 (upd (v 0) 10 5)) a e ha4 he5 hg hg2 hhb Gn ht.2.1.2.2.2.2.2.1 ht.1.2.2.1 q (by have := ht.1.2.2.1; omega) ((zy_goodIn ht.1.2.1 hs he).trans hq)) rfl (by exact zJ.of 5 (by decide) h.1 rfl rfl)
theorem zT_take (h : zJ v w) (x : Int32) : zT Ls xs v w t 211 179 [.int x] := by
  obtain ⟨hst0, hfl, htp, hr7, h46, hw16, D, Mn, Gn, Un, ht, hs, hh, hz⟩ := h.1
  rcases zt_isX h.st (show Gn ≤ 8 by have := ht.1.2.2.1; omega) x with ⟨hx, hg⟩ | ⟨hst, a, ha, rfl, hg⟩
  · rw [← ht.2.1.2.2.2.2.1] at hx
    rw [← h.lv, ← ht.2.1.2.2.2.2.2.1] at hg
    exact zT.mk (zK_take_t x hx) (zM_take_t (v := zb v 0 (upd (v 0) 10 1)) x hg) rfl (by exact zJ.of 1 (by decide) h.1 rfl rfl)
  · rw [← h.lv, ← ht.2.1.2.2.2.2.2.1] at hg
    have ha4 : a < 4 := (by have := ht.1.2.2.1; omega)
    rcases hs.2.2.1 a ha with ⟨hB, hli⟩ | ⟨e, he, hI, hli⟩
    · exact zT.mk (zK_take_5 hst Gn ht.2.1.2.2.2.2.1 ht.1.2.2.1 a ha (by rw [hli]; decide)) (zM_take_5 (v := zb v 0 (upd (v 0) 10 5)) a ha4 hg hB) rfl (by exact zJ.of 5 (by decide) h.1 rfl rfl)
    · have he5 : e < 5 := (by have := ht.1.2.1; omega)
      obtain ⟨k, p, i, ⟨hk16, hp16, hi3⟩, ⟨hk, hun, hp, hi, him⟩, hu, hima⟩ := hh
      rcases zy_16 hk16 with hlt | rfl
      · refine zT.mk (zK_take_f hst Gn ht.2.1.2.2.2.2.1 ht.1.2.2.1 a ha (by rw [hli]; exact nI_pos (by omega)) p hp hp16 _ hk hk16) (zM_take_f (v := zb (zb (zb (zb v 0 (upd (v 0) 10 0)) 33 (upd (v 33) a (-2))) 40 (upd (upd (v 40) 1 (nI ((p + 1) % 16))) 2 (nI (min (k + 1) 16)))) 41 (zr_save (v 41) (p * 16) (v 32 0) (v 32 1) (v 33) (v 34) (v 35))) a ha4 hg e he5 hI k hun hlt) hli.symm ⟨⟨hst0, hfl, htp, hr7, h46, hw16, D, Mn, Gn, Un, ht, zy_take ht.1.2.1 ht.1.2.2.1 hs ha, zy_note ht.1.2.1 ht.1.2.2.1 ⟨hk16, hp16, hi3⟩ ⟨hk, hun, hp, hi, him⟩ hu hima hs (show nI (k + 1) = _ by rw [show min (k + 1) 16 = k + 1 by omega]) (Or.inl ⟨hlt, rfl⟩), Or.inr (zy_st1 hz hst)⟩, rfl, fun z => absurd (show (0 : Int32) = 4 from z) (by decide)⟩
      · refine zT.mk (zK_take_f hst Gn ht.2.1.2.2.2.2.1 ht.1.2.2.1 a ha (by rw [hli]; exact nI_pos (by omega)) p hp hp16 _ hk hk16) (zM_take_g (v := zb (zb (zb (zb v 0 (upd (v 0) 10 0)) 33 (upd (v 33) a (-2))) 40 (upd (upd (v 40) 1 (nI ((p + 1) % 16))) 2 (nI (min (16 + 1) 16)))) 41 (zr_save (v 41) (p * 16) (v 32 0) (v 32 1) (v 33) (v 34) (v 35))) a ha4 hg e he5 hI hun) hli.symm ⟨⟨hst0, hfl, htp, hr7, h46, hw16, D, Mn, Gn, Un, ht, zy_take ht.1.2.1 ht.1.2.2.1 hs ha, zy_note ht.1.2.1 ht.1.2.2.1 ⟨hk16, hp16, hi3⟩ ⟨hk, hun, hp, hi, him⟩ hu hima hs rfl (Or.inr ⟨rfl, rfl⟩), Or.inr (zy_st1 hz hst)⟩, rfl, fun z => absurd (show (0 : Int32) = 4 from z) (by decide)⟩
theorem zT_think (h : zJ v w) (x y : Int32) : zT Ls xs v w t 196 180 [.int x, .int y] := by
  obtain ⟨hst0, hfl, htp, hr7, h46, hw16, D, Mn, Gn, Un, ht, hs, hh, hz⟩ := h.1
  rcases zt_isX h.st (show Mn ≤ 8 by have := ht.1.2.1; omega) x with ⟨hx, hg⟩ | ⟨hst, e, he, rfl, hg⟩
  · rw [← ht.2.1.2.2.1] at hx
    rw [← h.lv, ← ht.2.1.2.2.2.1] at hg
    exact zT.mk (zK_think_t x hx y) (zM_think_t (v := zb v 0 (upd (v 0) 10 1)) x y hg) rfl (by exact zJ.of 1 (by decide) h.1 rfl rfl)
  · rw [← h.lv, ← ht.2.1.2.2.2.1] at hg
    rcases zt_isX h.st ht.1.1 y with ⟨hx, hg2⟩ | ⟨_, d, hd, rfl, hg2⟩
    · rw [← ht.2.1.1] at hx
      rw [← h.lv, ← ht.2.1.2.1] at hg2
      exact zT.mk (zK_think_d hst Mn ht.2.1.2.2.1 ht.1.2.1 e he y hx) (zM_think_d (v := zb v 0 (upd (v 0) 10 1)) (nI e) y hg hg2) rfl (by exact zJ.of 1 (by decide) h.1 rfl rfl)
    · rw [← h.lv, ← ht.2.1.2.1] at hg2
      have he5 : e < 5 := (by have := ht.1.2.1; omega)
      obtain ⟨k, p, i, ⟨hk16, hp16, hi3⟩, ⟨hk, hun, hp, hi, him⟩, hu, hima⟩ := hh
      rcases zy_16 hk16 with hlt | rfl
      · refine zT.mk (zK_think_f hst Mn ht.2.1.2.2.1 ht.1.2.1 e he D ht.2.1.1 ht.1.1 d hd p hp hp16 _ hk hk16) (zM_think_f (v := zb (zb (zb (zb v 0 (upd (v 0) 10 0)) 34 (upd (v 34) e ((v 34 e) ^^^ ((1 : Int32) <<< ((nI d) &&& 31))))) 40 (upd (upd (v 40) 1 (nI ((p + 1) % 16))) 2 (nI (min (k + 1) 16)))) 41 (zr_save (v 41) (p * 16) (v 32 0) (v 32 1) (v 33) (v 34) (v 35))) e he5 hg (nI d) hg2 k hun hlt) (by show upd (v 75) (5 + e) ((v 75 (5 + e)) ^^^ ((1 : Int32) <<< ((nI d) &&& 31))) (5 + e) = upd (v 34) e ((v 34 e) ^^^ ((1 : Int32) <<< ((nI d) &&& 31))) e; rw [pk_us, pk_us, (hs.2.2.2.2.1 e he).1]) ⟨⟨hst0, hfl, htp, hr7, h46, hw16, D, Mn, Gn, Un, ht, zy_thinks ht.1.2.1 ht.1.2.2.1 ht.1.1 hs he hd, zy_note ht.1.2.1 ht.1.2.2.1 ⟨hk16, hp16, hi3⟩ ⟨hk, hun, hp, hi, him⟩ hu hima hs (show nI (k + 1) = _ by rw [show min (k + 1) 16 = k + 1 by omega]) (Or.inl ⟨hlt, rfl⟩), Or.inr (zy_st1 hz hst)⟩, rfl, fun z => absurd (show (0 : Int32) = 4 from z) (by decide)⟩
      · refine zT.mk (zK_think_f hst Mn ht.2.1.2.2.1 ht.1.2.1 e he D ht.2.1.1 ht.1.1 d hd p hp hp16 _ hk hk16) (zM_think_g (v := zb (zb (zb (zb v 0 (upd (v 0) 10 0)) 34 (upd (v 34) e ((v 34 e) ^^^ ((1 : Int32) <<< ((nI d) &&& 31))))) 40 (upd (upd (v 40) 1 (nI ((p + 1) % 16))) 2 (nI (min (16 + 1) 16)))) 41 (zr_save (v 41) (p * 16) (v 32 0) (v 32 1) (v 33) (v 34) (v 35))) e he5 hg (nI d) hg2 hun) (by show upd (v 75) (5 + e) ((v 75 (5 + e)) ^^^ ((1 : Int32) <<< ((nI d) &&& 31))) (5 + e) = upd (v 34) e ((v 34 e) ^^^ ((1 : Int32) <<< ((nI d) &&& 31))) e; rw [pk_us, pk_us, (hs.2.2.2.2.1 e he).1]) ⟨⟨hst0, hfl, htp, hr7, h46, hw16, D, Mn, Gn, Un, ht, zy_thinks ht.1.2.1 ht.1.2.2.1 ht.1.1 hs he hd, zy_note ht.1.2.1 ht.1.2.2.1 ⟨hk16, hp16, hi3⟩ ⟨hk, hun, hp, hi, him⟩ hu hima hs rfl (Or.inr ⟨rfl, rfl⟩), Or.inr (zy_st1 hz hst)⟩, rfl, fun z => absurd (show (0 : Int32) = 4 from z) (by decide)⟩
theorem zT_mend (h : zJ v w) (x : Int32) : zT Ls xs v w t 191 168 [.int x] := by
  obtain ⟨hst0, hfl, htp, hr7, h46, hw16, D, Mn, Gn, Un, ht, hs, hh, hz⟩ := h.1
  rcases zt_isX h.st (show Mn ≤ 8 by have := ht.1.2.1; omega) x with ⟨hx, hg⟩ | ⟨hst, e, he, rfl, hg⟩
  · rw [← ht.2.1.2.2.1] at hx
    rw [← h.lv, ← ht.2.1.2.2.2.1] at hg
    exact zT.mk (zK_mend_t x hx) (zM_mend_t (v := zb v 0 (upd (v 0) 10 1)) x hg) rfl (by exact zJ.of 1 (by decide) h.1 rfl rfl)
  · rw [← h.lv, ← ht.2.1.2.2.2.1] at hg
    have he5 : e < 5 := (by have := ht.1.2.1; omega)
    have e1 : v 24 e = v 71 (23 + 2 * e + 1) := (ht.2.2.2.2.2.1 e he).2
    have e2 : v 35 e = v 75 e := (hs.2.2.2.2.2 e he).1
    by_cases hla : v 35 e = v 24 e
    · exact zT.mk (zK_mend_5 hst Mn ht.2.1.2.2.1 ht.1.2.1 e he hla) (zM_mend_5 (v := zb v 0 (upd (v 0) 10 5)) e he5 hg (e2.symm.trans (hla.trans e1))) rfl (by exact zJ.of 5 (by decide) h.1 rfl rfl)
    · obtain ⟨hL1, L, hL, hL2⟩ := ht.2.2.2.2.2.2.2.2.2.2.2.2.2 e he
      have hLr : v 71 (23 + 2 * e + 1) = nI L := by rw [← e1, hL1]; exact hL2
      have hLc : v 24 e = nI L := e1.trans hLr
      have hns : zI_s D Mn Gn (v 32 0) (v 32 1) (v 33) (v 34) (upd (v 35) e (v 24 e)) (upd (v 75) e (v 71 (23 + 2 * e + 1))) := by rw [hLc, hLr]; exact (zy_mends ht.1.2.1 ht.1.2.2.1 hs hL).resolve_right (fun z => z he)
      have hla2 : ¬ v 75 e = v 71 (23 + 2 * e + 1) := fun z => hla (by rw [e1, e2]; exact z)
      obtain ⟨k, p, i, ⟨hk16, hp16, hi3⟩, ⟨hk, hun, hp, hi, him⟩, hu, hima⟩ := hh
      rcases zy_16 hk16 with hlt | rfl
      · refine zT.mk (zK_mend_f hst Mn ht.2.1.2.2.1 ht.1.2.1 e he hla p hp hp16 _ hk hk16) (zM_mend_f (v := zb (zb (zb (zb v 0 (upd (v 0) 10 0)) 35 (upd (v 35) e (v 24 e))) 40 (upd (upd (v 40) 1 (nI ((p + 1) % 16))) 2 (nI (min (k + 1) 16)))) 41 (zr_save (v 41) (p * 16) (v 32 0) (v 32 1) (v 33) (v 34) (v 35))) e he5 hg hla2 k hun hlt) rfl ⟨⟨hst0, hfl, htp, hr7, h46, hw16, D, Mn, Gn, Un, ht, hns, zy_note ht.1.2.1 ht.1.2.2.1 ⟨hk16, hp16, hi3⟩ ⟨hk, hun, hp, hi, him⟩ hu hima hs (show nI (k + 1) = _ by rw [show min (k + 1) 16 = k + 1 by omega]) (Or.inl ⟨hlt, rfl⟩), Or.inr (zy_st1 hz hst)⟩, rfl, fun z => absurd (show (0 : Int32) = 4 from z) (by decide)⟩
      · refine zT.mk (zK_mend_f hst Mn ht.2.1.2.2.1 ht.1.2.1 e he hla p hp hp16 _ hk hk16) (zM_mend_g (v := zb (zb (zb (zb v 0 (upd (v 0) 10 0)) 35 (upd (v 35) e (v 24 e))) 40 (upd (upd (v 40) 1 (nI ((p + 1) % 16))) 2 (nI (min (16 + 1) 16)))) 41 (zr_save (v 41) (p * 16) (v 32 0) (v 32 1) (v 33) (v 34) (v 35))) e he5 hg hla2 hun) rfl ⟨⟨hst0, hfl, htp, hr7, h46, hw16, D, Mn, Gn, Un, ht, hns, zy_note ht.1.2.1 ht.1.2.2.1 ⟨hk16, hp16, hi3⟩ ⟨hk, hun, hp, hi, him⟩ hu hima hs rfl (Or.inr ⟨rfl, rfl⟩), Or.inr (zy_st1 hz hst)⟩, rfl, fun z => absurd (show (0 : Int32) = 4 from z) (by decide)⟩
end ZTE
