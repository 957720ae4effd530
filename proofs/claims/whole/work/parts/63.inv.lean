/-! between the calls: the class and the reference hold the same -/
def zI_s (D Mn Gn : Nat) (ys lo : Int32) (li th la row : Nat → Int32) : Prop :=
  (∃ Y, Y ≤ 999 ∧ ys = nI Y ∧ row 15 = nI Y) ∧ lo = row 14 ∧
  (∀ g, g < Gn → (row (10 + g) = 0 ∧ li g = -2) ∨ ∃ e, e < Mn ∧ row (10 + g) = nI (e + 1) ∧ li g = nI e) ∧
  (∀ a b, a < Gn → b < Gn → a ≠ b → row (10 + a) = row (10 + b) → row (10 + a) = 0) ∧
  (∀ m, m < Mn → th m = row (5 + m) ∧ ∃ T, T < 2 ^ D ∧ row (5 + m) = nI T) ∧
  (∀ m, m < Mn → la m = row m ∧ ∃ L, L ≤ 30 ∧ row m = nI L)
/-- .. where a lost good may share a basket -/
def zI_sw (D Mn Gn : Nat) (ys lo : Int32) (li th la row : Nat → Int32) : Prop :=
  (∃ Y, Y ≤ 999 ∧ ys = nI Y ∧ row 15 = nI Y) ∧ lo = row 14 ∧
  (∀ g, g < Gn → (row (10 + g) = 0 ∧ li g = -2) ∨ ∃ e, e < Mn ∧ row (10 + g) = nI (e + 1) ∧ li g = nI e) ∧
  (∀ a b, a < Gn → b < Gn → a ≠ b → bt (row 14) a = false → bt (row 14) b = false → row (10 + a) = row (10 + b) → row (10 + a) = 0) ∧
  (∀ m, m < Mn → th m = row (5 + m) ∧ ∃ T, T < 2 ^ D ∧ row (5 + m) = nI T) ∧
  (∀ m, m < Mn → la m = row m ∧ ∃ L, L ≤ 30 ∧ row m = nI L)
theorem zI_s.w {D Mn Gn : Nat} {ys lo : Int32} {li th la row : Nat → Int32} (h : zI_s D Mn Gn ys lo li th la row) : zI_sw D Mn Gn ys lo li th la row :=
  ⟨h.1, h.2.1, h.2.2.1, fun a b h1 h2 h3 _ _ => h.2.2.2.1 a b h1 h2 h3, h.2.2.2.2.1, h.2.2.2.2.2⟩
def zI_t (D Mn Gn Un : Nat) (r20 r21 r22 r23 r24 r25 r26 r27 r28 r29 r30 r31 r71 r73 : Nat → Int32) : Prop :=
  (D ≤ 8 ∧ Mn ≤ 5 ∧ Gn ≤ 4 ∧ Un ≤ 4) ∧
  (r20 1 = nI D ∧ r71 1 = nI D ∧ r20 4 = nI Mn ∧ r71 2 = nI Mn ∧ r20 8 = nI Gn ∧ r71 3 = nI Gn ∧ r20 14 = nI Un ∧ r71 4 = nI Un) ∧
  (r20 13 = r71 5 ∧ ∃ h, h ≤ 100 ∧ r20 0 = nI h ∧ r71 0 = nI h) ∧
  (∀ d, d < D → r21 d = r71 (7 + 2 * d) ∧ r22 d = r71 ((7 + 2 * d) + 1) ∧ (∃ V, 1 ≤ V ∧ V ≤ 9 ∧ r71 (7 + 2 * d) = nI V) ∧ ∃ F, 1 ≤ F ∧ F ≤ 30 ∧ r71 ((7 + 2 * d) + 1) = nI F) ∧
  (∀ e, e < 5 → r23 e = 0 ∨ r23 e = 1 ∨ r23 e = 2) ∧
  (∀ m, m < Mn → r23 m = r71 (23 + 2 * m) ∧ r24 m = r71 ((23 + 2 * m) + 1)) ∧
  (∀ g, g < Gn → (r26 g = r71 (33 + 2 * g) ∧ r27 g = r71 ((33 + 2 * g) + 1)) ∧ (∃ W, 1 ≤ W ∧ W ≤ 99 ∧ r71 (33 + 2 * g) = nI W) ∧ (∃ T, T < 2 ^ D ∧ r71 ((33 + 2 * g) + 1) = nI T) ∧ r29 g = r71 (49 + g) ∧ ∃ B, B ≤ 40 ∧ r71 (49 + g) = nI B) ∧
  (∀ u, u < Un → r30 u = r71 (41 + 2 * u) ∧ r31 u = r71 ((41 + 2 * u) + 1) ∧ (∃ x, x < Mn ∧ r71 (41 + 2 * u) = nI x) ∧ ∃ y, y < D ∧ r71 ((41 + 2 * u) + 1) = nI y) ∧
  zI_s D Mn Gn 0 0 r28 r25 r24 r73
def zI_r (D Mn Gn : Nat) (A : Nat → Int32) (b : Nat) (B : Nat → Int32) (b' : Nat) : Prop :=
  zI_s D Mn Gn (A b) (A (b + 1)) (fun g => A (b + 2 + g)) (fun m => A (b + 6 + m)) (fun m => A (b + 11 + m)) (fun i => B (b' + i))
def zI_h (D Mn Gn : Nat) (r40 r41 r42 : Nat → Int32) (un im : Int32) (r77 r78 : Nat → Int32) : Prop :=
  ∃ k p i, (k ≤ 16 ∧ p < 16 ∧ i ≤ 3) ∧ (r40 2 = nI k ∧ un = nI k ∧ r40 1 = nI p ∧ r40 4 = nI i ∧ im = nI i) ∧
    (∀ j, j < k → zI_r D Mn Gn r41 (((p + 15 - j) % 16) * 16) r77 (16 * (k - 1 - j))) ∧ (∀ j, j < i → zI_r D Mn Gn r42 (j * 16) r78 (16 * j))
def zI_wb (Un D Gn : Nat) (r71 r73 : Nat → Int32) (s : Nat) : Int32 := (zr_mwb Un 40 D Gn r71 r73 (nI s) (fun _ => 0) 0 (fun _ => 0) (fun _ => 0) (fun _ => 0) (fun _ => 0) (fun _ => 0)).1
def zI_d (Un D Gn : Nat) (r57 r71 r73 : Nat → Int32) : Prop :=
  r57 2 = nI Un ∧ (∀ s, s < 32 → (bt (r57 3) s = true ↔ s < 2 ^ Un ∧ zI_wb Un D Gn r71 r73 s = -2)) ∧ r57 4 = zI_wb Un D Gn r71 r73 0
def zI_p (ln ln' : Int32) (r3 r69 : Nat → Int32) : Prop := ∃ L, L ≤ 900 ∧ ln = nI L ∧ ln' = nI L ∧ ∀ k, k < L → ∃ b, b < 256 ∧ r69 k = nI b ∧ r3 k = (nI b).toInt8.toInt32
def zk_lw : Nat → Int64 := fun j => match j with
  | 0 => 12769452 | 1 => 135732402 | 2 => 13675698 | 3 => 245220 | 4 => 302 | 5 => 719967813 | 6 => 72553868 | _ => 0
def zI_c (st st' fl fl' ln ln' un im : Int32) (r3 r7 r46 r69 r20 r21 r22 r23 r24 r25 r26 r27 r28 r29 r30 r31 r32 r33 r34 r35 r40 r41 r42 r57 r71 r73 r75 r77 r78 : Nat → Int32) (w16 : Nat → Int64) : Prop :=
  st = st' ∧ fl = fl' ∧ zI_p ln ln' r3 r69 ∧ (∀ e, e < 5 → r7 e = 0 ∨ r7 e = 1 ∨ r7 e = 2) ∧ (∀ e, e < 5 → r46 e = 0) ∧ (∀ j, j < 7 → w16 j = zk_lw j) ∧
  ∃ D Mn Gn Un, zI_t D Mn Gn Un r20 r21 r22 r23 r24 r25 r26 r27 r28 r29 r30 r31 r71 r73 ∧ zI_s D Mn Gn (r32 0) (r32 1) r33 r34 r35 r75 ∧ zI_h D Mn Gn r40 r41 r42 un im r77 r78 ∧
    ((st = 0 ∧ D = 0 ∧ Mn = 0 ∧ Gn = 0 ∧ Un = 0 ∧ r20 0 = 0 ∧ r20 13 = 0 ∧ r32 0 = 0 ∧ un = 0 ∧ im = 0) ∨ (st = 1 ∧ 1 ≤ Mn ∧ 1 ≤ Gn ∧ zI_d Un D Gn r57 r71 r73))
def zI (v : Nat → Nat → Int32) (w : Nat → Nat → Int64) : Prop :=
  zI_c (v 0 2) (v 68 14) (v 1 9) (v 68 9) (v 2 1) (v 68 2) (v 68 23) (v 68 24) (v 3) (v 7) (v 46) (v 69) (v 20) (v 21) (v 22) (v 23) (v 24) (v 25) (v 26) (v 27) (v 28) (v 29) (v 30) (v 31) (v 32) (v 33) (v 34) (v 35) (v 40) (v 41) (v 42) (v 57) (v 71) (v 73) (v 75) (v 77) (v 78) (w 16)
def zJ (v : Nat → Nat → Int32) (w : Nat → Nat → Int64) : Prop := zI v w ∧ v 0 10 = v 68 11 ∧ (v 0 10 = 4 → v 1 10 = v 68 10)
/-- a call of both, with equal answers -/
def zT (Ls : Nat) (xs : Nat → Int32) (v : Nat → Nat → Int32) (w : Nat → Nat → Int64) (t : zk_H) (k1 k2 : Nat) (as : List Value) : Prop :=
  ∃ (a : Value) (v1 : Nat → Nat → Int32) (w1 : Nat → Nat → Int64) (v2 : Nat → Nat → Int32) (w2 : Nat → Nat → Int64), zk_Cr zk_mt zk_ex Ls xs k1 (.ref 0 :: as) (zH v w t) (some a, zH v1 w1 t) ∧ zk_Cr zk_mt zk_ex Ls xs k2 (.ref 69 :: as) (zH v1 w1 t) (some a, zH v2 w2 t) ∧ zJ v2 w2
theorem zt_isX {lv : Int32} {n : Nat} (hlv : lv = 0 ∨ lv = 1) (hn : n ≤ 8) (x : Int32) : ((lv = 0 ∨ x < 0 ∨ nI n ≤ x) ∧ zr_misX lv (nI n) x = 0) ∨ (lv = 1 ∧ ∃ a, a < n ∧ x = nI a ∧ zr_misX lv (nI n) (nI a) = 1) := by
  rcases hlv with h0 | h1
  · refine Or.inl ⟨Or.inl h0, ?_⟩
    unfold zr_misX
    rw [if_pos h0]
  · have h10 : ¬ lv = 0 := by rw [h1]; decide
    rcases pk_ix x (show n < 2 ^ 31 by omega) with hx | hx | ⟨a, ha, hx⟩
    · refine Or.inl ⟨Or.inr (Or.inl hx), ?_⟩
      unfold zr_misX zr_mwithin
      rw [if_neg h10, if_pos hx, if_pos rfl]
    · refine Or.inl ⟨Or.inr (Or.inr hx), ?_⟩
      unfold zr_misX zr_mwithin
      rw [if_neg h10]
      by_cases hx0 : x < 0
      · rw [if_pos hx0, if_pos rfl]
      · rw [if_neg hx0]
        have h2 : nI n - 1 < x := by
          cases n with
          | zero =>
            have h3 : (nI 0 - 1 : Int32) < 0 := by decide
            exact Int32.lt_of_lt_of_le h3 (Int32.not_lt.mp hx0)
          | succ m =>
            rw [nI_pred]
            exact Int32.lt_of_lt_of_le (nI_lt (by omega) (by omega)) hx
        rw [if_pos h2, if_pos rfl]
    · refine Or.inr ⟨h1, a, ha, hx, ?_⟩
      unfold zr_misX zr_mwithin
      obtain ⟨m, hm⟩ : ∃ m, n = m + 1 := ⟨n - 1, by omega⟩
      rw [if_neg h10, if_neg (nI_pos (by omega)), hm, nI_pred, if_neg (nI_nlt (by omega) (by omega)), if_neg (by decide)]
theorem zt_win (x : Int32) (lo hi : Nat) (h : hi < 2 ^ 31) (hl : lo ≤ hi) : ((x < nI lo ∨ nI hi < x) ∧ zr_mwithin x (nI lo) (nI hi) = 0) ∨ ∃ n, lo ≤ n ∧ n ≤ hi ∧ x = nI n ∧ zr_mwithin (nI n) (nI lo) (nI hi) = 1 := by
  unfold zr_mwithin
  by_cases h1 : x < nI lo
  · exact Or.inl ⟨Or.inl h1, if_pos h1⟩
  · by_cases h2 : nI hi < x
    · exact Or.inl ⟨Or.inr h2, by rw [if_neg h1, if_pos h2]⟩
    · have hx0 : ¬ x < 0 := fun z => h1 (Int32.lt_of_lt_of_le z (nI_pos' (by omega)))
      obtain ⟨n, hn, rfl⟩ := nI_of hx0
      have a1 : lo ≤ n := (nI_leI (by omega) hn).mp (Int32.not_lt.mp h1)
      have a2 : n ≤ hi := (nI_leI hn h).mp (Int32.not_lt.mp h2)
      exact Or.inr ⟨n, a1, a2, rfl, by rw [if_neg h1, if_neg h2]⟩
theorem zt_ah (x : Int32) : ((x < 0 ∨ 60 < x) ∧ zr_maheadWhy 1 x = 2) ∨ ∃ n, n ≤ 60 ∧ x = nI n := by
  rcases zt_win x 0 60 (by decide) (by decide) with ⟨h1, h2⟩ | ⟨n, _, h2, h3, _⟩
  · refine Or.inl ⟨h1, ?_⟩
    unfold zr_maheadWhy
    rw [show zr_mwithin x 0 60 = 0 from h2]
    rfl
  · exact Or.inr ⟨n, h2, h3⟩
section ZJ
variable {v : Nat → Nat → Int32} {w : Nat → Nat → Int64}
theorem zJ.lv (h : zJ v w) : v 68 14 = v 0 2 := h.1.1.symm
theorem zJ.st (h : zJ v w) : v 0 2 = 0 ∨ v 0 2 = 1 := by
  obtain ⟨_, _, _, _, _, _, D, Mn, Gn, Un, _, _, _, hs⟩ := h.1
  rcases hs with hs | hs
  · exact Or.inl hs.1
  · exact Or.inr hs.1
end ZJ
