/-! what befell: the reference's wrongBy beside the ways -/
def zy_L (c : zg_C) : Int32 := if c.1 = true then 0 else c.2.1
theorem zl_mwbG_at (row : Nat → Int32) (y : Int32) (ly : Nat → Int32) : ∀ n, n ≤ 4 → ∀ g, zf (zl_mwbGG row y) n 0 ly g = if g < n ∧ bt (row 14) g = true ∧ ly g = 0 then y else ly g
  | 0, _, g => by rw [if_neg (by omega)]; rfl
  | n + 1, hn, g => by
    have ih := zl_mwbG_at row y ly n (by omega)
    rw [zf_last, Nat.zero_add]
    have e : ∀ f : Nat → Int32, zl_mwbGG row y n f g = if g = n ∧ bt (row 14) n = true ∧ f n = 0 then y else f g := by
      intro f
      unfold zl_mwbGG
      by_cases hb : bt (row 14) n = true
      · rw [if_neg (fun z => by rw [zt_hb0 _ (by omega), hb] at z; cases z)]
        by_cases hf : f n = 0
        · rw [if_pos hf]
          by_cases hg : g = n
          · rw [hg, pk_us, if_pos ⟨rfl, hb, hf⟩]
          · rw [pk_un hg, if_neg (fun z => hg z.1)]
        · rw [if_neg hf, if_neg (fun z => hf z.2.2)]
      · rw [if_pos ((zt_hb0 _ (by omega)).mpr (Bool.eq_false_iff.mpr hb)), if_neg (fun z => hb z.2.1)]
    rw [e, ih g, ih n, if_neg (show ¬ (n < n ∧ bt (row 14) n = true ∧ ly n = 0) by omega)]
    by_cases hg : g = n
    · subst hg
      rw [if_neg (show ¬ (g < g ∧ bt (row 14) g = true ∧ ly g = 0) by omega)]
      by_cases hc : bt (row 14) g = true ∧ ly g = 0
      · rw [if_pos ⟨rfl, hc⟩, if_pos ⟨by omega, hc⟩]
      · rw [if_neg (fun z => hc z.2), if_neg (fun z => hc z.2)]
    · rw [if_neg (fun z => hg z.1)]
      by_cases hc : g < n ∧ bt (row 14) g = true ∧ ly g = 0
      · rw [if_pos hc, if_pos ⟨by omega, hc.2⟩]
      · rw [if_neg hc, if_neg (fun z => hc ⟨by omega, z.2⟩)]
theorem zl_mwbZ_at (ly : Nat → Int32) : ∀ n g, g < n → zf zl_mwbZG n 0 ly g = 0
  | 0, g, h => absurd h (by omega)
  | n + 1, g, h => by
    rw [zf_last, Nat.zero_add]
    show upd (zf zl_mwbZG n 0 ly) n 0 g = 0
    by_cases hg : g = n
    · rw [hg, pk_us]
    · rw [pk_un hg]
      exact zl_mwbZ_at ly n g (by omega)
theorem zt_xorn {a y m : Nat} (hm : m ≤ 31) (ha : a < 2 ^ m) (hy : y < m) : ∃ c, c < 2 ^ m ∧ nI a ^^^ ((1 : Int32) <<< (nI y &&& 31)) = nI c := by
  refine ⟨a ^^^ 2 ^ y, Nat.xor_lt_two_pow ha (Nat.pow_lt_pow_right (by decide) hy), b_ext (fun i hi => ?_)⟩
  rw [b_xor, zt_one (by omega) hi, zt_nI hi, zt_nI hi, Nat.testBit_xor, Nat.testBit_two_pow]
  congr 1
  apply decide_eq_decide.mpr
  exact ⟨Eq.symm, Eq.symm⟩
section ZY9
variable {D Mn Gn Un : Nat} {r20 r21 r22 r23 r24 r25 r26 r27 r28 r29 r30 r31 r71 r73 : Nat → Int32}
theorem zy_Uat (ht : zI_t D Mn Gn Un r20 r21 r22 r23 r24 r25 r26 r27 r28 r29 r30 r31 r71 r73) (se : Int32) {row : Nat → Int32} (h : ∀ i, i < 16 → row i = r73 i) : ∀ i, i < 16 → zf (zl_mwbUG r71 se) Un 0 row i = (zf (zl_mwbUG r71 se) Un 0 r73) i := by
  have key := zf_rel (G := zl_mwbUG r71 se) (H := zl_mwbUG r71 se) (P := fun _ s t => ∀ i, i < 16 → s i = t i) Un 0 row r73 h ?_
  · exact key
  · intro j s t _ hj hp i hi
    obtain ⟨_, _, ⟨x, hx, hx2⟩, _⟩ := ht.2.2.2.2.2.2.2.1 j (by omega)
    have hM := ht.1.2.1
    unfold zl_mwbUG
    split
    · exact hp i hi
    · rw [hx2, show (5 : Int32) + nI x = nI (5 + x) from nI_add 5 x, nI_clamp (show 5 + x < 2 ^ 31 by omega)]
      by_cases hix : i = 5 + x
      · rw [hix, pk_us, pk_us, hp (5 + x) (by omega)]
      · rw [pk_un hix, pk_un hix]
        exact hp i hi
theorem zy_Urow (ht : zI_t D Mn Gn Un r20 r21 r22 r23 r24 r25 r26 r27 r28 r29 r30 r31 r71 r73) (se : Int32) : (∀ i, i < 16 → (i < 5 ∨ 10 ≤ i) → (zf (zl_mwbUG r71 se) Un 0 r73) i = r73 i) ∧ ∀ m, m < Mn → ∃ T, T < 2 ^ D ∧ (zf (zl_mwbUG r71 se) Un 0 r73) (5 + m) = nI T := by
  have hM := ht.1.2.1
  have hD := ht.1.1
  refine zf_ind (G := zl_mwbUG r71 se) (P := fun _ s => (∀ i, i < 16 → (i < 5 ∨ 10 ≤ i) → s i = r73 i) ∧ ∀ m, m < Mn → ∃ T, T < 2 ^ D ∧ s (5 + m) = nI T) Un 0 r73 ⟨fun _ _ _ => rfl, fun m hm => (ht.2.2.2.2.2.2.2.2.2.2.2.2.1 m hm).2⟩ ?_
  intro j s _ hj hp
  obtain ⟨_, _, ⟨x, hx, hx2⟩, y, hy, hy2⟩ := ht.2.2.2.2.2.2.2.1 j (by omega)
  unfold zl_mwbUG
  split
  · exact hp
  · rw [hx2, hy2, show (5 : Int32) + nI x = nI (5 + x) from nI_add 5 x, nI_clamp (show 5 + x < 2 ^ 31 by omega)]
    refine ⟨fun i hi hi2 => by rw [pk_un (by omega)]; exact hp.1 i hi hi2, fun m hm => ?_⟩
    by_cases hmx : m = x
    · subst hmx
      rw [pk_us]
      obtain ⟨T, hT1, hT2⟩ := hp.2 m hm
      rw [hT2]
      exact zt_xorn (by omega) hT1 hy
    · rw [pk_un (by omega)]
      exact hp.2 m hm
theorem zy_Usw (ht : zI_t D Mn Gn Un r20 r21 r22 r23 r24 r25 r26 r27 r28 r29 r30 r31 r71 r73) (se : Int32) {row : Nat → Int32} (h : ∀ i, i < 16 → row i = (zf (zl_mwbUG r71 se) Un 0 r73) i) : zI_sw D Mn Gn 0 0 r28 (fun m => (zf (zl_mwbUG r71 se) Un 0 r73) (5 + m)) r24 row := by
  have hM := ht.1.2.1
  have hG := ht.1.2.2.1
  obtain ⟨u1, u2⟩ := zy_Urow ht se
  obtain ⟨⟨Y, k1, k2, k3⟩, k4, k5, k6, k7, k8⟩ := ht.2.2.2.2.2.2.2.2
  have e : ∀ i, i < 16 → (i < 5 ∨ 10 ≤ i) → row i = r73 i := fun i h1 h2 => by rw [h i h1, u1 i h1 h2]
  refine ⟨⟨Y, k1, k2, ?_⟩, ?_, ?_, ?_, ?_, ?_⟩
  · rw [e 15 (by omega) (by omega)]; exact k3
  · rw [e 14 (by omega) (by omega)]; exact k4
  · intro g hg
    rw [e (10 + g) (by omega) (by omega)]
    exact k5 g hg
  · intro a b ha hb hab _ _
    rw [e (10 + a) (by omega) (by omega), e (10 + b) (by omega) (by omega)]
    exact k6 a b ha hb hab
  · intro m hm
    rw [h (5 + m) (by omega)]
    exact ⟨rfl, u2 m hm⟩
  · intro m hm
    rw [e m (by omega) (by omega)]
    exact k8 m hm
theorem zy_wby (ht : zI_t D Mn Gn Un r20 r21 r22 r23 r24 r25 r26 r27 r28 r29 r30 r31 r71 r73) (se : Int32) {row : Nat → Int32} (h : ∀ i, i < 16 → row i = (zf (zl_mwbUG r71 se) Un 0 r73) i) {ns : Nat → Int32} (hns : ∀ e, e < 5 → ns e = 0) (ou : Int32) (lt lw oo ly : Nat → Int32) (hly : ∀ g, g < 4 → ly g = 0) {N : Nat} (hN : N ≤ 60) (rX : Nat → Int32) : ∀ n, n ≤ N →
    ((zf (zl_mwbYG D Gn r71 ns) n 1 (row, ou, lt, lw, oo, ly)).1, (zf (zl_mwbYG D Gn r71 ns) n 1 (row, ou, lt, lw, oo, ly)).2.1, (zf (zl_mwbYG D Gn r71 ns) n 1 (row, ou, lt, lw, oo, ly)).2.2.1, (zf (zl_mwbYG D Gn r71 ns) n 1 (row, ou, lt, lw, oo, ly)).2.2.2.1, (zf (zl_mwbYG D Gn r71 ns) n 1 (row, ou, lt, lw, oo, ly)).2.2.2.2.1) = zf (zl_mgoG D Gn r71 ns) n 0 (row, ou, lt, lw, oo) ∧ ∀ g, g < Gn → (zf (zl_mwbYG D Gn r71 ns) n 1 (row, ou, lt, lw, oo, ly)).2.2.2.2.2 g = zy_L (zq_c (zf (zl_aimG D r21 r22 0) N 1 rX) 0 n r27 (fun m => (zf (zl_mwbUG r71 se) Un 0 r73) (5 + m)) r24 r23 (fun _ => 0) r28 0 g)
  | 0, _ => ⟨rfl, fun g hg => by
      rw [show (zf (zl_mwbYG D Gn r71 ns) 0 1 (row, ou, lt, lw, oo, ly)).2.2.2.2.2 g = ly g from rfl, hly g (by have := ht.1.2.2.1; omega)]
      unfold zq_c
      rw [if_neg (by rw [b_0]; decide)]
      rfl⟩
  | n + 1, hn => by
    have hG := ht.1.2.2.1
    have hsw := zy_Usw ht se h
    obtain ⟨ih1, ih2⟩ := zy_wby ht se h hns ou lt lw oo ly hly hN rX n (by omega)
    have hb : ∀ g, g < Gn → bt ((zf (zl_mgoG D Gn r71 ns) (n + 1) 0 (row, ou, lt, lw, oo)).1 14) g = !(zq_c (zf (zl_aimG D r21 r22 0) N 1 rX) 0 (n + 1) r27 (fun m => (zf (zl_mwbUG r71 se) Un 0 r73) (5 + m)) r24 r23 (fun _ => 0) r28 0 g).1 := by
      intro g hg
      obtain ⟨c, hc, hR, _⟩ := zy_main ht hsw (slp := ns) (sl := fun _ => 0) (fun e he => hns e (by have := ht.1.2.1; omega)) False ou lt lw oo (fun z => z.elim) (n := n + 1) (by omega) (sk := (zf (zl_aimG D r21 r22 0) N 1 rX)) (fun j a1 a2 => zl_aim_at D r21 r22 0 N 1 rX j a1 (by omega))
      have h2 := hR.2.1 g (by omega)
      rw [if_pos hg, hc g hg] at h2
      exact h2
    rw [zf_last, Nat.zero_add] at hb
    rw [zf_last, zf_last (zl_mgoG D Gn r71 ns), Nat.zero_add]
    rw [← ih1] at hb ⊢
    generalize hS : zf (zl_mwbYG D Gn r71 ns) n 1 (row, ou, lt, lw, oo, ly) = S at ih1 ih2 hb ⊢
    obtain ⟨row2, ou2, lt2, lw2, oo2, ly2⟩ := S
    refine ⟨rfl, fun g hg => ?_⟩
    have hbg := hb g hg
    have ihg : ly2 g = zy_L (zq_c (zf (zl_aimG D r21 r22 0) N 1 rX) 0 n r27 (fun m => (zf (zl_mwbUG r71 se) Un 0 r73) (5 + m)) r24 r23 (fun _ => 0) r28 0 g) := ih2 g hg
    show zf (zl_mwbGG ((zl_mgoG D Gn r71 ns n (row2, ou2, lt2, lw2, oo2)).1) (nI (1 + n))) Gn 0 ly2 g = _
    rw [zl_mwbG_at _ _ _ Gn hG g, hbg, ihg]
    unfold zq_c
    rw [if_neg (show ¬ bt 0 g = true by rw [b_0]; decide), if_neg (show ¬ bt 0 g = true by rw [b_0]; decide)]
    rcases zw_la (sk := (zf (zl_aimG D r21 r22 0) N 1 rX)) (yg := 0) (fe := r27 g) (od := zq_P r23 (fun m => (zf (zl_mwbUG r71 se) Un 0 r73) (5 + m)) (fun _ => 0) r28 g 1) (ev := zq_P r23 (fun m => (zf (zl_mwbUG r71 se) Un 0 r73) (5 + m)) (fun _ => 0) r28 g 2) (zq_l r24 r28 g) (n + 1) with ⟨w1, w2, w3⟩ | ⟨k, w1, w2, w3, w4, w5⟩
    · unfold zy_L
      rw [w1, if_neg (by simp), if_pos (w3 n (by omega)), if_pos rfl]
    · have hk0 : k ≠ 0 := fun hk => by rw [hk] at w4; cases w4
      rw [show zy_L (zf (zg_n (zf (zl_aimG D r21 r22 0) N 1 rX) 0 (r27 g) (zq_P r23 (fun m => (zf (zl_mwbUG r71 se) Un 0 r73) (5 + m)) (fun _ => 0) r28 g 1) (zq_P r23 (fun m => (zf (zl_mwbUG r71 se) Un 0 r73) (5 + m)) (fun _ => 0) r28 g 2)) (n + 1) 1 (zq_0 (zq_l r24 r28 g))) = nI k by unfold zy_L; rw [w3, if_neg (by decide), w2], w3]
      by_cases hkn : k = n + 1
      · have hL : zy_L (zf (zg_n (zf (zl_aimG D r21 r22 0) N 1 rX) 0 (r27 g) (zq_P r23 (fun m => (zf (zl_mwbUG r71 se) Un 0 r73) (5 + m)) (fun _ => 0) r28 g 1) (zq_P r23 (fun m => (zf (zl_mwbUG r71 se) Un 0 r73) (5 + m)) (fun _ => 0) r28 g 2)) (n) 1 (zq_0 (zq_l r24 r28 g))) = 0 := by unfold zy_L; rw [if_pos (w5 n (by omega))]
        rw [hL, if_pos ⟨hg, rfl, rfl⟩, hkn, Nat.add_comm 1 n]
      · have hL : zy_L (zf (zg_n (zf (zl_aimG D r21 r22 0) N 1 rX) 0 (r27 g) (zq_P r23 (fun m => (zf (zl_mwbUG r71 se) Un 0 r73) (5 + m)) (fun _ => 0) r28 g 1) (zq_P r23 (fun m => (zf (zl_mwbUG r71 se) Un 0 r73) (5 + m)) (fun _ => 0) r28 g 2)) (n) 1 (zq_0 (zq_l r24 r28 g))) = nI k := by
          rcases zw_la (sk := (zf (zl_aimG D r21 r22 0) N 1 rX)) (yg := 0) (fe := r27 g) (od := zq_P r23 (fun m => (zf (zl_mwbUG r71 se) Un 0 r73) (5 + m)) (fun _ => 0) r28 g 1) (ev := zq_P r23 (fun m => (zf (zl_mwbUG r71 se) Un 0 r73) (5 + m)) (fun _ => 0) r28 g 2) (zq_l r24 r28 g) n with ⟨z1, z2, z3⟩ | ⟨k2, z1, z2, z3, z4, z5⟩
          · have := z3 k (by omega)
            rw [w4] at this
            cases this
          · have hkk : k2 = k := by
              rcases Nat.lt_trichotomy k2 k with hlt | heq | hgt
              · have := w5 k2 hlt
                rw [z4] at this; cases this
              · exact heq
              · have := z5 k hgt
                rw [w4] at this; cases this
            unfold zy_L
            rw [z3, if_neg (by decide), z2, hkk]
        rw [hL, if_neg (fun z => nI_ne0 (by omega) (by omega) z.2.2)]
theorem zy_mwb (ht : zI_t D Mn Gn Un r20 r21 r22 r23 r24 r25 r26 r27 r28 r29 r30 r31 r71 r73) (se : Int32) (row : Nat → Int32) (ou : Int32) (lt lw oo slp ly : Nat → Int32) {N : Nat} (hN : N ≤ 60) (rX : Nat → Int32) :
    (zr_mwb Un N D Gn r71 r73 se row ou lt lw oo slp ly).1 = (match zfr (zl_mwbEG r71 (fun g => zy_L (zq_c (zf (zl_aimG D r21 r22 0) N 1 rX) 0 N r27 (fun m => (zf (zl_mwbUG r71 se) Un 0 r73) (5 + m)) r24 r23 (fun _ => 0) r28 0 g))) Gn 0 () with | .inl _ => (-2 : Int32) | .inr r => r) := by
  have h0 : ∀ i, i < 16 → zr_cpTt r73 row i = r73 i := fun i hi => by
    have h := zl_cpTt_at r73 row (n := 16) (k := 0) (Nat.le_refl _) i
    rw [if_pos (by omega)] at h
    exact h
  have hy := (zy_wby ht se (zy_Uat ht se h0) (ns := zr_mnoSlips slp) (fun e he => zr_mnoS_at slp he) ou lt lw oo (zf zl_mwbZG 4 0 ly) (fun g hg => zl_mwbZ_at ly 4 g hg) hN rX N (Nat.le_refl _)).2
  unfold zr_mwb
  have hc : zfr (zl_mwbEG r71 (zf (zl_mwbYG D Gn r71 (zr_mnoSlips slp)) N 1 (zf (zl_mwbUG r71 se) Un 0 (zr_cpTt r73 row), ou, lt, lw, oo, zf zl_mwbZG 4 0 ly)).2.2.2.2.2) Gn 0 () = zfr (zl_mwbEG r71 (fun g => zy_L (zq_c (zf (zl_aimG D r21 r22 0) N 1 rX) 0 N r27 (fun m => (zf (zl_mwbUG r71 se) Un 0 r73) (5 + m)) r24 r23 (fun _ => 0) r28 0 g))) Gn 0 () := by
    refine zfr_congr Gn 0 () (fun j s _ hj => ?_)
    unfold zl_mwbEG
    simp only
    rw [hy j (by omega)]
  rw [hc]
  cases zfr (zl_mwbEG r71 (fun g => zy_L (zq_c (zf (zl_aimG D r21 r22 0) N 1 rX) 0 N r27 (fun m => (zf (zl_mwbUG r71 se) Un 0 r73) (5 + m)) r24 r23 (fun _ => 0) r28 0 g))) Gn 0 () <;> rfl
theorem zy_mwbJ (ht : zI_t D Mn Gn Un r20 r21 r22 r23 r24 r25 r26 r27 r28 r29 r30 r31 r71 r73) (s : Nat) (row : Nat → Int32) (ou : Int32) (lt lw oo slp ly : Nat → Int32) {N : Nat} (hN : N = 40) : (zr_mwb Un N D Gn r71 r73 (nI s) row ou lt lw oo slp ly).1 = zI_wb Un D Gn r71 r73 s := by
  subst hN
  rw [zy_mwb ht (nI s) row ou lt lw oo slp ly (N := 40) (by decide) (fun _ => 0)]
  unfold zI_wb
  rw [zy_mwb ht (nI s) _ _ _ _ _ _ _ (N := 40) (by decide) (fun _ => 0)]
end ZY9
section ZTK
variable {Ls : Nat} {xs : Nat → Int32} {v : Nat → Nat → Int32} {w : Nat → Nat → Int64} {t : zk_H}
theorem zy_um {D Mn Gn Un : Nat} {r20 r21 r22 r23 r24 r25 r26 r27 r28 r29 r30 r31 r71 r73 : Nat → Int32} (ht : zI_t D Mn Gn Un r20 r21 r22 r23 r24 r25 r26 r27 r28 r29 r30 r31 r71 r73) : ∀ u, u < Un → ∃ x, x < 5 ∧ r71 (41 + 2 * u) = nI x := fun u hu => by
  obtain ⟨_, _, ⟨x, hx, hx2⟩, _⟩ := ht.2.2.2.2.2.2.2.1 u hu
  exact ⟨x, by have := ht.1.2.1; omega, hx2⟩
end ZTK
