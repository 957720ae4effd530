/-! ties: feed -/
theorem zy_i8 (y : Int32) : (y &&& 255).toInt8.toInt32 = y.toInt8.toInt32.toInt8.toInt32 := by
  have e1 : (y &&& 255).toInt8 = y.toInt8 := by
    rw [Int32.toInt8_and]
    apply Int8.toBitVec_inj.1
    rw [Int8.toBitVec_and]
    exact BitVec.and_allOnes
  have e2 : y.toInt8.toInt32.toInt8 = y.toInt8 := by simp
  rw [e1, e2]
theorem zl_app_at (x : Int32) (by_ : Nat → Int32) : ∀ (n j K : Nat) (i : Nat), (zf (zl_appG x) n j (K, by_)).1 = K + n ∧ (zf (zl_appG x) n j (K, by_)).2 i = if K ≤ i ∧ i < K + n then ((x >>> ((24 - 8 * nI (j + (i - K))) &&& 31)).toInt8.toInt32).toInt8.toInt32 else by_ i := by
  intro n
  induction n generalizing by_ with
  | zero => intro j K i; exact ⟨rfl, by rw [if_neg (by omega)]; rfl⟩
  | succ n ih =>
    intro j K i
    rw [zf_succ]
    have e : zl_appG x j (K, by_) = (K + 1, upd by_ K (((x >>> ((24 - 8 * nI j) &&& 31)).toInt8.toInt32)).toInt8.toInt32) := rfl
    rw [e]
    obtain ⟨h1, h2⟩ := ih (upd by_ K (((x >>> ((24 - 8 * nI j) &&& 31)).toInt8.toInt32)).toInt8.toInt32) (j + 1) (K + 1) i
    refine ⟨by rw [h1]; omega, ?_⟩
    rw [h2]
    by_cases hi : K + 1 ≤ i ∧ i < K + 1 + n
    · rw [if_pos hi, if_pos (by omega), show j + 1 + (i - (K + 1)) = j + (i - K) by omega]
    · rw [if_neg hi]
      by_cases hk : i = K
      · subst hk
        rw [pk_us, if_pos (by omega), Nat.sub_self, Nat.add_zero]
      · rw [pk_un hk, if_neg (by omega)]
theorem zr_app_at (x : Int32) (L : Nat) (by_ : Nat → Int32) (i : Nat) : (zr_app x L by_).1 i = if L ≤ i ∧ i < L + 4 then ((x >>> ((24 - 8 * nI (i - L)) &&& 31)).toInt8.toInt32).toInt8.toInt32 else by_ i := by
  have h := (zl_app_at x by_ 4 0 L i).2
  rw [Nat.zero_add] at h
  exact h
def zy_wd (a b c d e : Int32) (q : Nat) : Int32 := if q < 4 then a else if q < 8 then b else if q < 12 then c else if q < 16 then d else e
theorem zl_mfeed_at (a b c d e : Int32) (tp : Nat → Int32) : ∀ (n j K : Nat) (i : Nat), j + n ≤ 20 → (zf (zl_mfeedG a b c d e) n j (K, tp)).1 = K + n ∧ (zf (zl_mfeedG a b c d e) n j (K, tp)).2 i = if K ≤ i ∧ i < K + n then ((zy_wd a b c d e (j + (i - K))) >>> ((24 - 8 * nI ((j + (i - K)) % 4)) &&& 31)) &&& 255 else tp i := by
  intro n
  induction n generalizing tp with
  | zero => intro j K i _; exact ⟨rfl, by rw [if_neg (by omega)]; rfl⟩
  | succ n ih =>
    intro j K i hj
    rw [zf_succ]
    have hE : zl_mfeedG a b c d e j (K, tp) = (K + 1, upd tp K (((zy_wd a b c d e j) >>> ((24 - 8 * nI (j % 4)) &&& 31)) &&& 255)) := by
      unfold zl_mfeedG zy_wd
      simp only
      rw [show nI j - nI j / 4 * 4 = nI (j % 4) from pk_rem (by omega) (by decide) (show 4 < 2 ^ 31 by decide)]
      by_cases h4 : j < 4
      · rw [if_neg (show ¬ (4 : Int32) ≤ nI j from nI_ge (b := 4) h4 (by decide)), if_pos h4]
      · rw [if_pos (show (4 : Int32) ≤ nI j from nI_le (a := 4) (show 4 ≤ j by omega) (by omega)), if_neg h4]
        by_cases h8 : j < 8
        · rw [if_neg (show ¬ (8 : Int32) ≤ nI j from nI_ge (b := 8) h8 (by decide)), if_pos h8]
        · rw [if_pos (show (8 : Int32) ≤ nI j from nI_le (a := 8) (show 8 ≤ j by omega) (by omega)), if_neg h8]
          by_cases h12 : j < 12
          · rw [if_neg (show ¬ (12 : Int32) ≤ nI j from nI_ge (b := 12) h12 (by decide)), if_pos h12]
          · rw [if_pos (show (12 : Int32) ≤ nI j from nI_le (a := 12) (show 12 ≤ j by omega) (by omega)), if_neg h12]
            by_cases h16 : j < 16
            · rw [if_neg (show ¬ (16 : Int32) ≤ nI j from nI_ge (b := 16) h16 (by decide)), if_pos h16]
            · rw [if_pos (show (16 : Int32) ≤ nI j from nI_le (a := 16) (show 16 ≤ j by omega) (by omega)), if_neg h16]
    rw [hE]
    obtain ⟨h1, h2⟩ := ih (upd tp K (((zy_wd a b c d e j) >>> ((24 - 8 * nI (j % 4)) &&& 31)) &&& 255)) (j + 1) (K + 1) i (by omega)
    refine ⟨by rw [h1]; omega, ?_⟩
    rw [h2]
    by_cases hi : K + 1 ≤ i ∧ i < K + 1 + n
    · rw [if_pos hi, if_pos (by omega), show j + 1 + (i - (K + 1)) = j + (i - K) by omega]
    · rw [if_neg hi]
      by_cases hk : i = K
      · subst hk
        rw [pk_us, if_pos (by omega), Nat.sub_self, Nat.add_zero]
      · rw [pk_un hk, if_neg (by omega)]
theorem zu_same {f : Nat → Int32} {i : Nat} {x : Int32} (h : f i = x) : upd f i x = f := by
  funext j
  by_cases hj : j = i
  · subst hj; rw [pk_us]; exact h.symm
  · rw [pk_un hj]
theorem zb_same {α : Type} (v : Nat → Nat → α) (k : Nat) : zb v k (v k) = v := by
  funext a
  unfold zb
  by_cases h : a = k
  · subst h
    rw [show Nat.beq a a = true from Nat.beq_refl a]; rfl
  · rw [show Nat.beq a k = false from Bool.eq_false_iff.mpr (fun z => h (Nat.eq_of_beq_eq_true z))]; rfl
section ZTG
variable {Ls : Nat} {xs : Nat → Int32} {v : Nat → Nat → Int32} {w : Nat → Nat → Int64} {t : zk_H}
theorem zT_feed (h : zJ v w) (a b c d e : Int32) : zT Ls xs v w t 75 46 [.int a, .int b, .int c, .int d, .int e] := by
  obtain ⟨⟨hst0, hfl, ⟨L, hL9, hL1, hL2, hby⟩, hr7, h46, hw16, hrest⟩, htr, hpl⟩ := h
  by_cases hf : 900 < L + 20
  · refine zT.mk (zK_feed_t a b c d e L hL1 hL9 hf) (zM_feed_t a b c d e L hL2 hL9 hf) rfl ⟨⟨hst0, hfl, ⟨L, hL9, hL1, hL2, hby⟩, hr7, h46, hw16, hrest⟩, htr, hpl⟩
  · have hf2 : L + 20 ≤ 900 := by omega
    have hK := zK_feed_f (v := v) (w := w) (t := t) (Ls := Ls) (xs := xs) a b c d e L hf2
    rw [zu_same hL1, zb_same] at hK
    obtain ⟨v1, hv1⟩ : ∃ v1, v1 = zb (zb v 2 (upd (v 2) 1 (nI (L + 20)))) 3 ((zr_app e (L + 16) ((zr_app d (L + 12) ((zr_app c (L + 8) ((zr_app b (L + 4) ((zr_app a L (v 3)).1)).1)).1)).1)).1) := ⟨_, rfl⟩
    have hM := zM_feed_f (v := v1) (w := w) (t := t) (Ls := Ls) (xs := xs) a b c d e L hf2
    rw [zu_same (show v1 68 2 = nI L by rw [hv1]; exact hL2), zb_same, (zl_mfeed_at a b c d e (v1 69) 20 0 L 0 (by omega)).1] at hM
    rw [← hv1] at hK
    refine zT.mk hK hM rfl ⟨?_, ?_, ?_⟩
    · subst hv1
      refine ⟨hst0, hfl, ⟨L + 20, by omega, rfl, rfl, ?_⟩, hr7, h46, hw16, hrest⟩
      intro k hk
      show ∃ y, y < 256 ∧ (zf (zl_mfeedG a b c d e) 20 0 (L, v 69)).2 k = nI y ∧ (zr_app e (L + 16) ((zr_app d (L + 12) ((zr_app c (L + 8) ((zr_app b (L + 4) ((zr_app a L (v 3)).1)).1)).1)).1)).1 k = (nI y).toInt8.toInt32
      rw [(zl_mfeed_at a b c d e (v 69) 20 0 L k (by omega)).2]
      by_cases hkL : k < L
      · rw [if_neg (by omega), zr_app_at, if_neg (by omega), zr_app_at, if_neg (by omega), zr_app_at, if_neg (by omega), zr_app_at, if_neg (by omega), zr_app_at, if_neg (by omega)]
        exact hby k hkL
      · rw [if_pos (by omega), Nat.zero_add]
        have key : ∀ (x : Int32) (q : Nat), q < 4 → zy_wd a b c d e (k - L) = x → (k - L) % 4 = q → ∃ y, y < 256 ∧ (zy_wd a b c d e (k - L) >>> ((24 - 8 * nI ((k - L) % 4)) &&& 31)) &&& 255 = nI y ∧ ((x >>> ((24 - 8 * nI q) &&& 31)).toInt8.toInt32).toInt8.toInt32 = (nI y).toInt8.toInt32 := by
          intro x q _ hx hq
          rw [hx, hq]
          obtain ⟨y, hy1, hy2⟩ := pk_andE (x >>> ((24 - 8 * nI q) &&& 31)) (m := 255) 8 (by decide)
          exact ⟨y, hy1, hy2, by rw [← hy2]; exact (zy_i8 _).symm⟩
        rcases (show k - L < 4 ∨ (4 ≤ k - L ∧ k - L < 8) ∨ (8 ≤ k - L ∧ k - L < 12) ∨ (12 ≤ k - L ∧ k - L < 16) ∨ 16 ≤ k - L by omega) with c1 | c1 | c1 | c1 | c1
        · rw [zr_app_at, if_neg (by omega), zr_app_at, if_neg (by omega), zr_app_at, if_neg (by omega), zr_app_at, if_neg (by omega), zr_app_at, if_pos (by omega)]
          exact key a (k - L) (by omega) (by unfold zy_wd; rw [if_pos c1]) (by omega)
        · rw [zr_app_at, if_neg (by omega), zr_app_at, if_neg (by omega), zr_app_at, if_neg (by omega), zr_app_at, if_pos (by omega)]
          exact key b (k - (L + 4)) (by omega) (by unfold zy_wd; rw [if_neg (by omega), if_pos (by omega)]) (by omega)
        · rw [zr_app_at, if_neg (by omega), zr_app_at, if_neg (by omega), zr_app_at, if_pos (by omega)]
          exact key c (k - (L + 8)) (by omega) (by unfold zy_wd; rw [if_neg (by omega), if_neg (by omega), if_pos (by omega)]) (by omega)
        · rw [zr_app_at, if_neg (by omega), zr_app_at, if_pos (by omega)]
          exact key d (k - (L + 12)) (by omega) (by unfold zy_wd; rw [if_neg (by omega), if_neg (by omega), if_neg (by omega), if_pos (by omega)]) (by omega)
        · rw [zr_app_at, if_pos (by omega)]
          exact key e (k - (L + 16)) (by omega) (by unfold zy_wd; rw [if_neg (by omega), if_neg (by omega), if_neg (by omega), if_neg (by omega)]) (by omega)
    · subst hv1; exact htr
    · subst hv1; exact hpl
end ZTG
