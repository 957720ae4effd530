/-! ties: odds, mean: the calls -/
theorem zy_1016 {F W : Nat} (hF : F ≤ 100 ^ 8) (hW : W ≤ 99) : F * W < 2 ^ 63 := Nat.lt_of_le_of_lt (Nat.mul_le_mul hF hW) (by decide)
theorem zy_cnt8 (T : Nat) : 100 ^ (zy_cnt (fun d => T.testBit d) 8) ≤ 100 ^ 8 := Nat.pow_le_pow_right (by decide) (zy_cnt_le _ 8)
section ZTM
variable {Ls : Nat} {xs : Nat → Int32} {v : Nat → Nat → Int32} {w : Nat → Nat → Int64} {t : zk_H}
theorem zT_odds (h : zJ v w) (x y z : Int32) : zT Ls xs v w t 234 271 [.int x, .int y, .int z] := by
  obtain ⟨_, _, _, _, h46, _, D, Mn, Gn, Un, ht, hs, _, hz⟩ := h.1
  rcases zt_isX h.st (show Gn ≤ 8 by have := ht.1.2.2.1; omega) x with ⟨hx, hg⟩ | ⟨hst, a, ha, rfl, hg⟩
  · rw [← ht.2.1.2.2.2.2.1] at hx
    rw [← h.lv, ← ht.2.1.2.2.2.2.2.1] at hg
    exact zT.ml (zK_odds_t x hx y z) (zM_odds_t (v := zb v 0 (upd (v 0) 10 1)) x y z hg) rfl (by exact zJ.of 1 (by decide) h.1 rfl rfl)
  · rw [← h.lv, ← ht.2.1.2.2.2.2.2.1] at hg
    have ha4 : a < 4 := (by have := ht.1.2.2.1; omega)
    rcases zt_ah y with ⟨ho, hw⟩ | ⟨n, hn, rfl⟩
    · exact zT.ml (zK_odds_o hst Gn ht.2.1.2.2.2.2.1 ht.1.2.2.1 a ha y z ho) (zM_odds_o (v := zb v 0 (upd (v 0) 10 2)) (nI a) y z hg hw) rfl (by exact zJ.of 2 (by decide) h.1 rfl rfl)
    · obtain ⟨hu, hu100, hu1, hu2⟩ := ht.2.2.1.2
      obtain ⟨⟨hWc, _⟩, ⟨W, hW1, hW99, hWr⟩, _⟩ := ht.2.2.2.2.2.2.1 a ha
      have hWc : v 26 a = nI W := hWc.trans hWr
      have hD := ht.1.1
      by_cases hl : bt (v 75 14) a = true
      · have hlo : zr_isLost (v 32 1) (nI a) = 1 := by rw [hs.2.1, zt_il _ (by omega), if_pos hl]
        have hq : ∀ sl : Nat → Int32, (zq_c (zf (zl_aimG D (v 21) (v 22) (v 32 0)) n 1 (v 66)) (v 32 0) n (v 27) (v 34) (v 35) (v 23) sl (v 33) (v 32 1) a).1 = false := fun sl => by
          unfold zq_c
          rw [if_pos (by rw [hs.2.1]; exact hl)]
        have heq : ∀ A, 0 < A → zr_mlow (0) (A) z = (if z = 0 then (zr_shorten 0 1 1).1 else (zr_shorten 0 1 1).2) := fun A hA => by
          rw [show zr_mlow (0) (A) z = zr_mlow (0 * 1) (A) z from rfl, zy_mlow0 hA]
          exact (zr_shorten_at (F := 0) (A := 1) (W := 1) (by omega) (by decide) (by decide) (by rw [Nat.zero_mul]; decide) z).symm
        rcases hs.2.2.1 a ha with ⟨hI1, hI2⟩ | ⟨e, he, hI1, hI2⟩
        · obtain ⟨b1, b2⟩ := zy_mtsB ht hs ha hu100 hu2 hn (v 66) (v 76) (v 68 26) (v 80) (v 81) (v 82) (v 79)
          rw [hq, if_neg (by decide)] at b2
          exact zT.ml (zK_odds_l hst Gn ht.2.1.2.2.2.2.1 ht.1.2.2.1 a ha n hn z hlo) (zM_odds_B (v := (zb v 0 (upd (v 0) 10 0))) (w := (zb w 64 (vp_updL (vp_updL (vp_updL (vp_updL (w 64) 1 0) 2 1) 3 ((zr_shorten 0 1 1).1)) 4 ((zr_shorten 0 1 1).2)))) a ha4 hg n hn D ht.2.1.2.1 ht.1.1 Gn ht.2.1.2.2.2.2.2.1 ht.1.2.2.1 (zy_ev ht) (zy_lie ht hs) hI1 0 rfl (by decide) (0) (1) b2 b1 (by decide) (by decide) (by decide) z) (heq 1 (by decide)) (by exact zJ.of 0 (by decide) h.1 rfl rfl)
        · have he5 : e < 5 := (by have := ht.1.2.1; omega)
          obtain ⟨T, hT1, hT2⟩ := (hs.2.2.2.2.1 e he).2
          have hT8 : T < 256 := Nat.lt_of_lt_of_le hT1 (Nat.pow_le_pow_right (n := 2) (j := 8) (by decide) hD)
          obtain ⟨b1, b2⟩ := zy_mtsI ht hs ha he5 hT8 hu100 hu2 hn (v 66) (v 76) (v 68 26) (v 80) (v 81) (v 82) (v 79)
          rw [zy_allT hu100 hT8] at b1
          rw [zy_sum_0 _ (fun i _ => if_neg (fun z => by rw [hq] at z; exact absurd z.2 (by decide)))] at b2
          exact zT.ml (zK_odds_l hst Gn ht.2.1.2.2.2.2.1 ht.1.2.2.1 a ha n hn z hlo) (zM_odds_I (v := (zb v 0 (upd (v 0) 10 0))) (w := (zb w 64 (vp_updL (vp_updL (vp_updL (vp_updL (w 64) 1 0) 2 1) 3 ((zr_shorten 0 1 1).1)) 4 ((zr_shorten 0 1 1).2)))) a ha4 hg n hn D ht.2.1.2.1 ht.1.1 Gn ht.2.1.2.2.2.2.2.1 ht.1.2.2.1 (zy_ev ht) (zy_lie ht hs) e he5 hI1 T hT2 hT8 (0) (100 ^ (zy_cnt (fun d => T.testBit d) 8)) b2 b1 (by decide) (Nat.pow_pos (by decide)) (Nat.lt_of_le_of_lt (zy_cnt8 T) (by decide)) z) (heq _ (Nat.pow_pos (by decide))) (by exact zJ.of 0 (by decide) h.1 rfl rfl)
      · have hl0 : bt (v 75 14) a = false := Bool.eq_false_iff.mpr hl
        have hl1 : bt (v 32 1) a = false := by rw [hs.2.1]; exact hl0
        have hlo : zr_isLost (v 32 1) (nI a) = 0 := (zt_il0 _ (by omega)).mpr hl1
        rcases hs.2.2.1 a ha with ⟨hI1, hI2⟩ | ⟨e, he, hI1, hI2⟩
        · obtain ⟨b1, b2⟩ := zy_mtsB ht hs ha hu100 hu2 hn (v 66) (v 76) (v 68 26) (v 80) (v 81) (v 82) (v 79)
          have hB : v 33 a < 0 := by rw [hI2]; decide
          obtain ⟨F, hF⟩ : ∃ F, F = (if (zq_c (zf (zl_aimG D (v 21) (v 22) (v 32 0)) n 1 (v 66)) (v 32 0) n (v 27) (v 34) (v 35) (v 23) (fun _ => 0) (v 33) (v 32 1) a).1 = true then 1 else 0) := ⟨_, rfl⟩
          rw [← hF] at b2
          have hF1 : F ≤ 100 ^ 8 := by rw [hF]; split <;> decide
          have hc : (zr_rcB D n (v 21) (v 22) (v 27) a (v 32 0) (v 66) (v 65 3) (v 65 4) (v 65 5) (v 65 6) (v 65 7)).1 = lN F ∧ (zr_rcB D n (v 21) (v 22) (v 27) a (v 32 0) (v 66) (v 65 3) (v 65 4) (v 65 5) (v 65 6) (v 65 7)).2.1 = lN 1 := by
            have hq := zq_c_at (sk := (zf (zl_aimG D (v 21) (v 22) (v 32 0)) n 1 (v 66))) (yg := v 32 0) (sp := n) (fe := v 27) (th := v 34) (la := v 35) (kd := v 23) (li := v 33) hl1
            rw [show zq_l (v 35) (v 33) a = 0 from if_pos hB, show zq_P (v 23) (v 34) (fun _ => 0) (v 33) a 1 = 0 from if_pos hB, show zq_P (v 23) (v 34) (fun _ => 0) (v 33) a 2 = 0 from if_pos hB] at hq
            rw [hF, hq]
            unfold zr_rcB
            by_cases hf : (zr_follow (zf (zl_aimG D (v 21) (v 22) (v 32 0)) n 1 (v 66)) (v 32 0) n (v 27 a) 0 0 0).1 = 0
            · rw [if_pos hf, if_neg (show ¬ decide (¬ (zr_follow (zf (zl_aimG D (v 21) (v 22) (v 32 0)) n 1 (v 66)) (v 32 0) n (v 27 a) 0 0 0).1 = 0) = true from fun z => of_decide_eq_true z hf)]
              exact ⟨rfl, rfl⟩
            · rw [if_neg hf, if_pos (show decide (¬ (zr_follow (zf (zl_aimG D (v 21) (v 22) (v 32 0)) n 1 (v 66)) (v 32 0) n (v 27 a) 0 0 0).1 = 0) = true from decide_eq_true hf)]
              exact ⟨rfl, rfl⟩
          have heq : zr_mlow (F) (1) z = (if z = 0 then (zr_shorten (zr_rcB D n (v 21) (v 22) (v 27) a (v 32 0) (v 66) (v 65 3) (v 65 4) (v 65 5) (v 65 6) (v 65 7)).1 (zr_rcB D n (v 21) (v 22) (v 27) a (v 32 0) (v 66) (v 65 3) (v 65 4) (v 65 5) (v 65 6) (v 65 7)).2.1 1).1 else (zr_shorten (zr_rcB D n (v 21) (v 22) (v 27) a (v 32 0) (v 66) (v 65 3) (v 65 4) (v 65 5) (v 65 6) (v 65 7)).1 (zr_rcB D n (v 21) (v 22) (v 27) a (v 32 0) (v 66) (v 65 3) (v 65 4) (v 65 5) (v 65 6) (v 65 7)).2.1 1).2) := by
            rw [hc.1, hc.2]
            have es := zr_shorten_at (F := F) (A := 1) (W := 1) (by omega) (by decide) (by decide) (zy_1016 hF1 (by omega)) z
            rw [Nat.mul_one, show nI 1 = 1 from rfl] at es
            exact es.symm
          exact zT.ml (zK_odds_B hst D ht.2.1.1 ht.1.1 Gn ht.2.1.2.2.2.2.1 ht.1.2.2.1 a ha n hn z hlo hB) (zM_odds_B (v := (zb (zb (zb v 0 (upd (v 0) 10 0)) 65 (upd (upd (upd (upd (upd (upd (upd (v 65) 0 ((zr_rcB D n (v 21) (v 22) (v 27) a (v 32 0) (v 66) (v 65 3) (v 65 4) (v 65 5) (v 65 6) (v 65 7)).2.2.1)) 1 ((zr_rcB D n (v 21) (v 22) (v 27) a (v 32 0) (v 66) (v 65 3) (v 65 4) (v 65 5) (v 65 6) (v 65 7)).2.2.2.1)) 3 ((zr_rcB D n (v 21) (v 22) (v 27) a (v 32 0) (v 66) (v 65 3) (v 65 4) (v 65 5) (v 65 6) (v 65 7)).2.2.2.2.2.1)) 4 ((zr_rcB D n (v 21) (v 22) (v 27) a (v 32 0) (v 66) (v 65 3) (v 65 4) (v 65 5) (v 65 6) (v 65 7)).2.2.2.2.2.2.1)) 5 ((zr_rcB D n (v 21) (v 22) (v 27) a (v 32 0) (v 66) (v 65 3) (v 65 4) (v 65 5) (v 65 6) (v 65 7)).2.2.2.2.2.2.2.1)) 6 ((zr_rcB D n (v 21) (v 22) (v 27) a (v 32 0) (v 66) (v 65 3) (v 65 4) (v 65 5) (v 65 6) (v 65 7)).2.2.2.2.2.2.2.2.1)) 7 ((zr_rcB D n (v 21) (v 22) (v 27) a (v 32 0) (v 66) (v 65 3) (v 65 4) (v 65 5) (v 65 6) (v 65 7)).2.2.2.2.2.2.2.2.2))) 66 ((zr_rcB D n (v 21) (v 22) (v 27) a (v 32 0) (v 66) (v 65 3) (v 65 4) (v 65 5) (v 65 6) (v 65 7)).2.2.2.2.1))) (w := (zb w 64 (vp_updL (vp_updL (vp_updL (vp_updL (w 64) 1 ((zr_rcB D n (v 21) (v 22) (v 27) a (v 32 0) (v 66) (v 65 3) (v 65 4) (v 65 5) (v 65 6) (v 65 7)).1)) 2 ((zr_rcB D n (v 21) (v 22) (v 27) a (v 32 0) (v 66) (v 65 3) (v 65 4) (v 65 5) (v 65 6) (v 65 7)).2.1)) 3 ((zr_shorten ((zr_rcB D n (v 21) (v 22) (v 27) a (v 32 0) (v 66) (v 65 3) (v 65 4) (v 65 5) (v 65 6) (v 65 7)).1) ((zr_rcB D n (v 21) (v 22) (v 27) a (v 32 0) (v 66) (v 65 3) (v 65 4) (v 65 5) (v 65 6) (v 65 7)).2.1) 1).1)) 4 ((zr_shorten ((zr_rcB D n (v 21) (v 22) (v 27) a (v 32 0) (v 66) (v 65 3) (v 65 4) (v 65 5) (v 65 6) (v 65 7)).1) ((zr_rcB D n (v 21) (v 22) (v 27) a (v 32 0) (v 66) (v 65 3) (v 65 4) (v 65 5) (v 65 6) (v 65 7)).2.1) 1).2)))) a ha4 hg n hn D ht.2.1.2.1 ht.1.1 Gn ht.2.1.2.2.2.2.2.1 ht.1.2.2.1 (zy_ev ht) (zy_lie ht hs) hI1 0 rfl (by decide) (F) (1) b2 b1 (show F < 2 ^ 63 from Nat.lt_of_le_of_lt hF1 (by decide)) (by decide) (by decide) z) heq (by exact zJ.of 0 (by decide) h.1 rfl rfl)
        · have he5 : e < 5 := (by have := ht.1.2.1; omega)
          obtain ⟨hth, T, hT1, hT2⟩ := hs.2.2.2.2.1 e he
          have hth : v 34 e = nI T := hth.trans hT2
          have hT8 : T < 256 := Nat.lt_of_lt_of_le hT1 (Nat.pow_le_pow_right (n := 2) (j := 8) (by decide) hD)
          obtain ⟨b1, b2⟩ := zy_mtsI ht hs ha he5 hT8 hu100 hu2 hn (v 66) (v 76) (v 68 26) (v 80) (v 81) (v 82) (v 79)
          obtain ⟨c1, c2⟩ := zy_ws (D := D) (r21 := v 21) (r22 := v 22) (r27 := v 27) (r23 := v 23) (ys := v 32 0) (la := v 35) he5 hI2 hth hl1 hT8 hu100 (n := n) (v 66) (v 65 3) (v 65 4) (v 65 5) (v 65 6) (v 65 7)
          obtain ⟨F, hF⟩ : ∃ F, F = zy_sum (fun i => if zy_in T i 8 = true ∧ (zq_c (zf (zl_aimG D (v 21) (v 22) (v 32 0)) n 1 (v 66)) (v 32 0) n (v 27) (v 34) (v 35) (v 23) (upd (fun _ => 0) e (nI i)) (v 33) (v 32 1) a).1 = true then zy_wt hu T i 8 else 0) (T + 1) := ⟨_, rfl⟩
          have hF1 : F ≤ 100 ^ 8 := by
            rw [hF]
            refine Nat.le_trans (zy_sum_le (g := fun i => if zy_in T i 8 = true then zy_wt hu T i 8 else 0) _ (fun i _ => ?_)) (by rw [zy_allT hu100 hT8]; exact zy_cnt8 T)
            by_cases hin : zy_in T i 8 = true
            · rw [if_pos hin]
              split
              · exact Nat.le_refl _
              · exact Nat.zero_le _
            · rw [if_neg (fun z => hin z.1)]
              exact Nat.zero_le _
          rw [zy_allT hu100 hT8] at b1
          rw [← hF] at b2 c1
          rw [← hu1] at c1 c2
          have heq : zr_mlow (F) (100 ^ (zy_cnt (fun d => T.testBit d) 8)) z = (if z = 0 then (zr_shorten (zr_rcI D n (v 21) (v 22) (v 27) (v 35) (v 23) a e T (v 20 0) (v 32 0) (v 66) (v 65 3) (v 65 4) (v 65 5) (v 65 6) (v 65 7)).1 (zr_rcI D n (v 21) (v 22) (v 27) (v 35) (v 23) a e T (v 20 0) (v 32 0) (v 66) (v 65 3) (v 65 4) (v 65 5) (v 65 6) (v 65 7)).2.1 1).1 else (zr_shorten (zr_rcI D n (v 21) (v 22) (v 27) (v 35) (v 23) a e T (v 20 0) (v 32 0) (v 66) (v 65 3) (v 65 4) (v 65 5) (v 65 6) (v 65 7)).1 (zr_rcI D n (v 21) (v 22) (v 27) (v 35) (v 23) a e T (v 20 0) (v 32 0) (v 66) (v 65 3) (v 65 4) (v 65 5) (v 65 6) (v 65 7)).2.1 1).2) := by
            rw [c1, c2]
            have es := zr_shorten_at (F := F) (A := 100 ^ (zy_cnt (fun d => T.testBit d) 8)) (W := 1) (by omega) (Nat.pow_pos (by decide)) (Nat.lt_of_le_of_lt (zy_cnt8 T) (by decide)) (zy_1016 hF1 (by omega)) z
            rw [Nat.mul_one, show nI 1 = 1 from rfl] at es
            exact es.symm
          exact zT.ml (zK_odds_I hst D ht.2.1.1 ht.1.1 ht.2.2.2.2.1 Gn ht.2.1.2.2.2.2.1 ht.1.2.2.1 a ha e he5 T hth hT8 n hn z hlo hI2) (zM_odds_I (v := (zb (zb (zb v 0 (upd (v 0) 10 0)) 65 (upd (upd (upd (upd (upd (upd (upd (v 65) 0 ((zr_rcI D n (v 21) (v 22) (v 27) (v 35) (v 23) a e T (v 20 0) (v 32 0) (v 66) (v 65 3) (v 65 4) (v 65 5) (v 65 6) (v 65 7)).2.2.1)) 1 ((zr_rcI D n (v 21) (v 22) (v 27) (v 35) (v 23) a e T (v 20 0) (v 32 0) (v 66) (v 65 3) (v 65 4) (v 65 5) (v 65 6) (v 65 7)).2.2.2.1)) 3 ((zr_rcI D n (v 21) (v 22) (v 27) (v 35) (v 23) a e T (v 20 0) (v 32 0) (v 66) (v 65 3) (v 65 4) (v 65 5) (v 65 6) (v 65 7)).2.2.2.2.2.1)) 4 ((zr_rcI D n (v 21) (v 22) (v 27) (v 35) (v 23) a e T (v 20 0) (v 32 0) (v 66) (v 65 3) (v 65 4) (v 65 5) (v 65 6) (v 65 7)).2.2.2.2.2.2.1)) 5 ((zr_rcI D n (v 21) (v 22) (v 27) (v 35) (v 23) a e T (v 20 0) (v 32 0) (v 66) (v 65 3) (v 65 4) (v 65 5) (v 65 6) (v 65 7)).2.2.2.2.2.2.2.1)) 6 ((zr_rcI D n (v 21) (v 22) (v 27) (v 35) (v 23) a e T (v 20 0) (v 32 0) (v 66) (v 65 3) (v 65 4) (v 65 5) (v 65 6) (v 65 7)).2.2.2.2.2.2.2.2.1)) 7 ((zr_rcI D n (v 21) (v 22) (v 27) (v 35) (v 23) a e T (v 20 0) (v 32 0) (v 66) (v 65 3) (v 65 4) (v 65 5) (v 65 6) (v 65 7)).2.2.2.2.2.2.2.2.2))) 66 ((zr_rcI D n (v 21) (v 22) (v 27) (v 35) (v 23) a e T (v 20 0) (v 32 0) (v 66) (v 65 3) (v 65 4) (v 65 5) (v 65 6) (v 65 7)).2.2.2.2.1))) (w := (zb w 64 (vp_updL (vp_updL (vp_updL (vp_updL (w 64) 1 ((zr_rcI D n (v 21) (v 22) (v 27) (v 35) (v 23) a e T (v 20 0) (v 32 0) (v 66) (v 65 3) (v 65 4) (v 65 5) (v 65 6) (v 65 7)).1)) 2 ((zr_rcI D n (v 21) (v 22) (v 27) (v 35) (v 23) a e T (v 20 0) (v 32 0) (v 66) (v 65 3) (v 65 4) (v 65 5) (v 65 6) (v 65 7)).2.1)) 3 ((zr_shorten ((zr_rcI D n (v 21) (v 22) (v 27) (v 35) (v 23) a e T (v 20 0) (v 32 0) (v 66) (v 65 3) (v 65 4) (v 65 5) (v 65 6) (v 65 7)).1) ((zr_rcI D n (v 21) (v 22) (v 27) (v 35) (v 23) a e T (v 20 0) (v 32 0) (v 66) (v 65 3) (v 65 4) (v 65 5) (v 65 6) (v 65 7)).2.1) 1).1)) 4 ((zr_shorten ((zr_rcI D n (v 21) (v 22) (v 27) (v 35) (v 23) a e T (v 20 0) (v 32 0) (v 66) (v 65 3) (v 65 4) (v 65 5) (v 65 6) (v 65 7)).1) ((zr_rcI D n (v 21) (v 22) (v 27) (v 35) (v 23) a e T (v 20 0) (v 32 0) (v 66) (v 65 3) (v 65 4) (v 65 5) (v 65 6) (v 65 7)).2.1) 1).2)))) a ha4 hg n hn D ht.2.1.2.1 ht.1.1 Gn ht.2.1.2.2.2.2.2.1 ht.1.2.2.1 (zy_ev ht) (zy_lie ht hs) e he5 hI1 T hT2 hT8 (F) (100 ^ (zy_cnt (fun d => T.testBit d) 8)) b2 b1 (show F < 2 ^ 63 from Nat.lt_of_le_of_lt hF1 (by decide)) (Nat.pow_pos (by decide)) (Nat.lt_of_le_of_lt (zy_cnt8 T) (by decide)) z) heq (by exact zJ.of 0 (by decide) h.1 rfl rfl)
theorem zT_mean (h : zJ v w) (x y z : Int32) : zT Ls xs v w t 233 267 [.int x, .int y, .int z] := by
  obtain ⟨_, _, _, _, h46, _, D, Mn, Gn, Un, ht, hs, _, hz⟩ := h.1
  rcases zt_isX h.st (show Gn ≤ 8 by have := ht.1.2.2.1; omega) x with ⟨hx, hg⟩ | ⟨hst, a, ha, rfl, hg⟩
  · rw [← ht.2.1.2.2.2.2.1] at hx
    rw [← h.lv, ← ht.2.1.2.2.2.2.2.1] at hg
    exact zT.ml (zK_mean_t x hx y z) (zM_mean_t (v := zb v 0 (upd (v 0) 10 1)) x y z hg) rfl (by exact zJ.of 1 (by decide) h.1 rfl rfl)
  · rw [← h.lv, ← ht.2.1.2.2.2.2.2.1] at hg
    have ha4 : a < 4 := (by have := ht.1.2.2.1; omega)
    rcases zt_ah y with ⟨ho, hw⟩ | ⟨n, hn, rfl⟩
    · exact zT.ml (zK_mean_o hst Gn ht.2.1.2.2.2.2.1 ht.1.2.2.1 a ha y z ho) (zM_mean_o (v := zb v 0 (upd (v 0) 10 2)) (nI a) y z hg hw) rfl (by exact zJ.of 2 (by decide) h.1 rfl rfl)
    · obtain ⟨hu, hu100, hu1, hu2⟩ := ht.2.2.1.2
      obtain ⟨⟨hWc, _⟩, ⟨W, hW1, hW99, hWr⟩, _⟩ := ht.2.2.2.2.2.2.1 a ha
      have hWc : v 26 a = nI W := hWc.trans hWr
      have hD := ht.1.1
      by_cases hl : bt (v 75 14) a = true
      · have hlo : zr_isLost (v 32 1) (nI a) = 1 := by rw [hs.2.1, zt_il _ (by omega), if_pos hl]
        have hq : ∀ sl : Nat → Int32, (zq_c (zf (zl_aimG D (v 21) (v 22) (v 32 0)) n 1 (v 66)) (v 32 0) n (v 27) (v 34) (v 35) (v 23) sl (v 33) (v 32 1) a).1 = false := fun sl => by
          unfold zq_c
          rw [if_pos (by rw [hs.2.1]; exact hl)]
        have heq : ∀ A, 0 < A → zr_mlow (0 * W) (A) z = (if z = 0 then (zr_shorten 0 1 (v 26 a)).1 else (zr_shorten 0 1 (v 26 a)).2) := fun A hA => by
          rw [hWc, zy_mlow0 hA]
          exact (zr_shorten_at (F := 0) (A := 1) (W := W) (by omega) (by decide) (by decide) (by rw [Nat.zero_mul]; decide) z).symm
        rcases hs.2.2.1 a ha with ⟨hI1, hI2⟩ | ⟨e, he, hI1, hI2⟩
        · obtain ⟨b1, b2⟩ := zy_mtsB ht hs ha hu100 hu2 hn (v 66) (v 76) (v 68 26) (v 80) (v 81) (v 82) (v 79)
          rw [hq, if_neg (by decide)] at b2
          exact zT.ml (zK_mean_l hst Gn ht.2.1.2.2.2.2.1 ht.1.2.2.1 a ha n hn z hlo) (zM_mean_B (v := (zb v 0 (upd (v 0) 10 0))) (w := (zb w 64 (vp_updL (vp_updL (vp_updL (vp_updL (w 64) 1 0) 2 1) 3 ((zr_shorten 0 1 (v 26 a)).1)) 4 ((zr_shorten 0 1 (v 26 a)).2)))) a ha4 hg n hn D ht.2.1.2.1 ht.1.1 Gn ht.2.1.2.2.2.2.2.1 ht.1.2.2.1 (zy_ev ht) (zy_lie ht hs) hI1 0 rfl (by decide) (0) (0 * W) (1) b2 b1 (zy_1016 (Nat.zero_le _) hW99) (by decide) (by decide) z (show (v 71 (33 + 2 * a)).toInt64 * lN (0) = lN (0 * W) by rw [hWr, (zy_i64 W (by omega)).1, zy_lmul, Nat.mul_comm])) (heq 1 (by decide)) (by exact zJ.of 0 (by decide) h.1 rfl rfl)
        · have he5 : e < 5 := (by have := ht.1.2.1; omega)
          obtain ⟨T, hT1, hT2⟩ := (hs.2.2.2.2.1 e he).2
          have hT8 : T < 256 := Nat.lt_of_lt_of_le hT1 (Nat.pow_le_pow_right (n := 2) (j := 8) (by decide) hD)
          obtain ⟨b1, b2⟩ := zy_mtsI ht hs ha he5 hT8 hu100 hu2 hn (v 66) (v 76) (v 68 26) (v 80) (v 81) (v 82) (v 79)
          rw [zy_allT hu100 hT8] at b1
          rw [zy_sum_0 _ (fun i _ => if_neg (fun z => by rw [hq] at z; exact absurd z.2 (by decide)))] at b2
          exact zT.ml (zK_mean_l hst Gn ht.2.1.2.2.2.2.1 ht.1.2.2.1 a ha n hn z hlo) (zM_mean_I (v := (zb v 0 (upd (v 0) 10 0))) (w := (zb w 64 (vp_updL (vp_updL (vp_updL (vp_updL (w 64) 1 0) 2 1) 3 ((zr_shorten 0 1 (v 26 a)).1)) 4 ((zr_shorten 0 1 (v 26 a)).2)))) a ha4 hg n hn D ht.2.1.2.1 ht.1.1 Gn ht.2.1.2.2.2.2.2.1 ht.1.2.2.1 (zy_ev ht) (zy_lie ht hs) e he5 hI1 T hT2 hT8 (0) (0 * W) (100 ^ (zy_cnt (fun d => T.testBit d) 8)) b2 b1 (zy_1016 (Nat.zero_le _) hW99) (Nat.pow_pos (by decide)) (Nat.lt_of_le_of_lt (zy_cnt8 T) (by decide)) z (show (v 71 (33 + 2 * a)).toInt64 * lN (0) = lN (0 * W) by rw [hWr, (zy_i64 W (by omega)).1, zy_lmul, Nat.mul_comm])) (heq _ (Nat.pow_pos (by decide))) (by exact zJ.of 0 (by decide) h.1 rfl rfl)
      · have hl0 : bt (v 75 14) a = false := Bool.eq_false_iff.mpr hl
        have hl1 : bt (v 32 1) a = false := by rw [hs.2.1]; exact hl0
        have hlo : zr_isLost (v 32 1) (nI a) = 0 := (zt_il0 _ (by omega)).mpr hl1
        rcases hs.2.2.1 a ha with ⟨hI1, hI2⟩ | ⟨e, he, hI1, hI2⟩
        · obtain ⟨b1, b2⟩ := zy_mtsB ht hs ha hu100 hu2 hn (v 66) (v 76) (v 68 26) (v 80) (v 81) (v 82) (v 79)
          have hB : v 33 a < 0 := by rw [hI2]; decide
          obtain ⟨F, hF⟩ : ∃ F, F = (if (zq_c (zf (zl_aimG D (v 21) (v 22) (v 32 0)) n 1 (v 66)) (v 32 0) n (v 27) (v 34) (v 35) (v 23) (fun _ => 0) (v 33) (v 32 1) a).1 = true then 1 else 0) := ⟨_, rfl⟩
          rw [← hF] at b2
          have hF1 : F ≤ 100 ^ 8 := by rw [hF]; split <;> decide
          have hc : (zr_rcB D n (v 21) (v 22) (v 27) a (v 32 0) (v 66) (v 65 3) (v 65 4) (v 65 5) (v 65 6) (v 65 7)).1 = lN F ∧ (zr_rcB D n (v 21) (v 22) (v 27) a (v 32 0) (v 66) (v 65 3) (v 65 4) (v 65 5) (v 65 6) (v 65 7)).2.1 = lN 1 := by
            have hq := zq_c_at (sk := (zf (zl_aimG D (v 21) (v 22) (v 32 0)) n 1 (v 66))) (yg := v 32 0) (sp := n) (fe := v 27) (th := v 34) (la := v 35) (kd := v 23) (li := v 33) hl1
            rw [show zq_l (v 35) (v 33) a = 0 from if_pos hB, show zq_P (v 23) (v 34) (fun _ => 0) (v 33) a 1 = 0 from if_pos hB, show zq_P (v 23) (v 34) (fun _ => 0) (v 33) a 2 = 0 from if_pos hB] at hq
            rw [hF, hq]
            unfold zr_rcB
            by_cases hf : (zr_follow (zf (zl_aimG D (v 21) (v 22) (v 32 0)) n 1 (v 66)) (v 32 0) n (v 27 a) 0 0 0).1 = 0
            · rw [if_pos hf, if_neg (show ¬ decide (¬ (zr_follow (zf (zl_aimG D (v 21) (v 22) (v 32 0)) n 1 (v 66)) (v 32 0) n (v 27 a) 0 0 0).1 = 0) = true from fun z => of_decide_eq_true z hf)]
              exact ⟨rfl, rfl⟩
            · rw [if_neg hf, if_pos (show decide (¬ (zr_follow (zf (zl_aimG D (v 21) (v 22) (v 32 0)) n 1 (v 66)) (v 32 0) n (v 27 a) 0 0 0).1 = 0) = true from decide_eq_true hf)]
              exact ⟨rfl, rfl⟩
          have heq : zr_mlow (F * W) (1) z = (if z = 0 then (zr_shorten (zr_rcB D n (v 21) (v 22) (v 27) a (v 32 0) (v 66) (v 65 3) (v 65 4) (v 65 5) (v 65 6) (v 65 7)).1 (zr_rcB D n (v 21) (v 22) (v 27) a (v 32 0) (v 66) (v 65 3) (v 65 4) (v 65 5) (v 65 6) (v 65 7)).2.1 (v 26 a)).1 else (zr_shorten (zr_rcB D n (v 21) (v 22) (v 27) a (v 32 0) (v 66) (v 65 3) (v 65 4) (v 65 5) (v 65 6) (v 65 7)).1 (zr_rcB D n (v 21) (v 22) (v 27) a (v 32 0) (v 66) (v 65 3) (v 65 4) (v 65 5) (v 65 6) (v 65 7)).2.1 (v 26 a)).2) := by
            rw [hc.1, hc.2, hWc]
            have es := zr_shorten_at (F := F) (A := 1) (W := W) (by omega) (by decide) (by decide) (zy_1016 hF1 (by omega)) z
            
            exact es.symm
          exact zT.ml (zK_mean_B hst D ht.2.1.1 ht.1.1 Gn ht.2.1.2.2.2.2.1 ht.1.2.2.1 a ha n hn z hlo hB) (zM_mean_B (v := (zb (zb (zb v 0 (upd (v 0) 10 0)) 65 (upd (upd (upd (upd (upd (upd (upd (v 65) 0 ((zr_rcB D n (v 21) (v 22) (v 27) a (v 32 0) (v 66) (v 65 3) (v 65 4) (v 65 5) (v 65 6) (v 65 7)).2.2.1)) 1 ((zr_rcB D n (v 21) (v 22) (v 27) a (v 32 0) (v 66) (v 65 3) (v 65 4) (v 65 5) (v 65 6) (v 65 7)).2.2.2.1)) 3 ((zr_rcB D n (v 21) (v 22) (v 27) a (v 32 0) (v 66) (v 65 3) (v 65 4) (v 65 5) (v 65 6) (v 65 7)).2.2.2.2.2.1)) 4 ((zr_rcB D n (v 21) (v 22) (v 27) a (v 32 0) (v 66) (v 65 3) (v 65 4) (v 65 5) (v 65 6) (v 65 7)).2.2.2.2.2.2.1)) 5 ((zr_rcB D n (v 21) (v 22) (v 27) a (v 32 0) (v 66) (v 65 3) (v 65 4) (v 65 5) (v 65 6) (v 65 7)).2.2.2.2.2.2.2.1)) 6 ((zr_rcB D n (v 21) (v 22) (v 27) a (v 32 0) (v 66) (v 65 3) (v 65 4) (v 65 5) (v 65 6) (v 65 7)).2.2.2.2.2.2.2.2.1)) 7 ((zr_rcB D n (v 21) (v 22) (v 27) a (v 32 0) (v 66) (v 65 3) (v 65 4) (v 65 5) (v 65 6) (v 65 7)).2.2.2.2.2.2.2.2.2))) 66 ((zr_rcB D n (v 21) (v 22) (v 27) a (v 32 0) (v 66) (v 65 3) (v 65 4) (v 65 5) (v 65 6) (v 65 7)).2.2.2.2.1))) (w := (zb w 64 (vp_updL (vp_updL (vp_updL (vp_updL (w 64) 1 ((zr_rcB D n (v 21) (v 22) (v 27) a (v 32 0) (v 66) (v 65 3) (v 65 4) (v 65 5) (v 65 6) (v 65 7)).1)) 2 ((zr_rcB D n (v 21) (v 22) (v 27) a (v 32 0) (v 66) (v 65 3) (v 65 4) (v 65 5) (v 65 6) (v 65 7)).2.1)) 3 ((zr_shorten ((zr_rcB D n (v 21) (v 22) (v 27) a (v 32 0) (v 66) (v 65 3) (v 65 4) (v 65 5) (v 65 6) (v 65 7)).1) ((zr_rcB D n (v 21) (v 22) (v 27) a (v 32 0) (v 66) (v 65 3) (v 65 4) (v 65 5) (v 65 6) (v 65 7)).2.1) (v 26 a)).1)) 4 ((zr_shorten ((zr_rcB D n (v 21) (v 22) (v 27) a (v 32 0) (v 66) (v 65 3) (v 65 4) (v 65 5) (v 65 6) (v 65 7)).1) ((zr_rcB D n (v 21) (v 22) (v 27) a (v 32 0) (v 66) (v 65 3) (v 65 4) (v 65 5) (v 65 6) (v 65 7)).2.1) (v 26 a)).2)))) a ha4 hg n hn D ht.2.1.2.1 ht.1.1 Gn ht.2.1.2.2.2.2.2.1 ht.1.2.2.1 (zy_ev ht) (zy_lie ht hs) hI1 0 rfl (by decide) (F) (F * W) (1) b2 b1 (zy_1016 hF1 hW99) (by decide) (by decide) z (show (v 71 (33 + 2 * a)).toInt64 * lN (F) = lN (F * W) by rw [hWr, (zy_i64 W (by omega)).1, zy_lmul, Nat.mul_comm])) heq (by exact zJ.of 0 (by decide) h.1 rfl rfl)
        · have he5 : e < 5 := (by have := ht.1.2.1; omega)
          obtain ⟨hth, T, hT1, hT2⟩ := hs.2.2.2.2.1 e he
          have hth : v 34 e = nI T := hth.trans hT2
          have hT8 : T < 256 := Nat.lt_of_lt_of_le hT1 (Nat.pow_le_pow_right (n := 2) (j := 8) (by decide) hD)
          obtain ⟨b1, b2⟩ := zy_mtsI ht hs ha he5 hT8 hu100 hu2 hn (v 66) (v 76) (v 68 26) (v 80) (v 81) (v 82) (v 79)
          obtain ⟨c1, c2⟩ := zy_ws (D := D) (r21 := v 21) (r22 := v 22) (r27 := v 27) (r23 := v 23) (ys := v 32 0) (la := v 35) he5 hI2 hth hl1 hT8 hu100 (n := n) (v 66) (v 65 3) (v 65 4) (v 65 5) (v 65 6) (v 65 7)
          obtain ⟨F, hF⟩ : ∃ F, F = zy_sum (fun i => if zy_in T i 8 = true ∧ (zq_c (zf (zl_aimG D (v 21) (v 22) (v 32 0)) n 1 (v 66)) (v 32 0) n (v 27) (v 34) (v 35) (v 23) (upd (fun _ => 0) e (nI i)) (v 33) (v 32 1) a).1 = true then zy_wt hu T i 8 else 0) (T + 1) := ⟨_, rfl⟩
          have hF1 : F ≤ 100 ^ 8 := by
            rw [hF]
            refine Nat.le_trans (zy_sum_le (g := fun i => if zy_in T i 8 = true then zy_wt hu T i 8 else 0) _ (fun i _ => ?_)) (by rw [zy_allT hu100 hT8]; exact zy_cnt8 T)
            by_cases hin : zy_in T i 8 = true
            · rw [if_pos hin]
              split
              · exact Nat.le_refl _
              · exact Nat.zero_le _
            · rw [if_neg (fun z => hin z.1)]
              exact Nat.zero_le _
          rw [zy_allT hu100 hT8] at b1
          rw [← hF] at b2 c1
          rw [← hu1] at c1 c2
          have heq : zr_mlow (F * W) (100 ^ (zy_cnt (fun d => T.testBit d) 8)) z = (if z = 0 then (zr_shorten (zr_rcI D n (v 21) (v 22) (v 27) (v 35) (v 23) a e T (v 20 0) (v 32 0) (v 66) (v 65 3) (v 65 4) (v 65 5) (v 65 6) (v 65 7)).1 (zr_rcI D n (v 21) (v 22) (v 27) (v 35) (v 23) a e T (v 20 0) (v 32 0) (v 66) (v 65 3) (v 65 4) (v 65 5) (v 65 6) (v 65 7)).2.1 (v 26 a)).1 else (zr_shorten (zr_rcI D n (v 21) (v 22) (v 27) (v 35) (v 23) a e T (v 20 0) (v 32 0) (v 66) (v 65 3) (v 65 4) (v 65 5) (v 65 6) (v 65 7)).1 (zr_rcI D n (v 21) (v 22) (v 27) (v 35) (v 23) a e T (v 20 0) (v 32 0) (v 66) (v 65 3) (v 65 4) (v 65 5) (v 65 6) (v 65 7)).2.1 (v 26 a)).2) := by
            rw [c1, c2, hWc]
            have es := zr_shorten_at (F := F) (A := 100 ^ (zy_cnt (fun d => T.testBit d) 8)) (W := W) (by omega) (Nat.pow_pos (by decide)) (Nat.lt_of_le_of_lt (zy_cnt8 T) (by decide)) (zy_1016 hF1 (by omega)) z
            
            exact es.symm
          exact zT.ml (zK_mean_I hst D ht.2.1.1 ht.1.1 ht.2.2.2.2.1 Gn ht.2.1.2.2.2.2.1 ht.1.2.2.1 a ha e he5 T hth hT8 n hn z hlo hI2) (zM_mean_I (v := (zb (zb (zb v 0 (upd (v 0) 10 0)) 65 (upd (upd (upd (upd (upd (upd (upd (v 65) 0 ((zr_rcI D n (v 21) (v 22) (v 27) (v 35) (v 23) a e T (v 20 0) (v 32 0) (v 66) (v 65 3) (v 65 4) (v 65 5) (v 65 6) (v 65 7)).2.2.1)) 1 ((zr_rcI D n (v 21) (v 22) (v 27) (v 35) (v 23) a e T (v 20 0) (v 32 0) (v 66) (v 65 3) (v 65 4) (v 65 5) (v 65 6) (v 65 7)).2.2.2.1)) 3 ((zr_rcI D n (v 21) (v 22) (v 27) (v 35) (v 23) a e T (v 20 0) (v 32 0) (v 66) (v 65 3) (v 65 4) (v 65 5) (v 65 6) (v 65 7)).2.2.2.2.2.1)) 4 ((zr_rcI D n (v 21) (v 22) (v 27) (v 35) (v 23) a e T (v 20 0) (v 32 0) (v 66) (v 65 3) (v 65 4) (v 65 5) (v 65 6) (v 65 7)).2.2.2.2.2.2.1)) 5 ((zr_rcI D n (v 21) (v 22) (v 27) (v 35) (v 23) a e T (v 20 0) (v 32 0) (v 66) (v 65 3) (v 65 4) (v 65 5) (v 65 6) (v 65 7)).2.2.2.2.2.2.2.1)) 6 ((zr_rcI D n (v 21) (v 22) (v 27) (v 35) (v 23) a e T (v 20 0) (v 32 0) (v 66) (v 65 3) (v 65 4) (v 65 5) (v 65 6) (v 65 7)).2.2.2.2.2.2.2.2.1)) 7 ((zr_rcI D n (v 21) (v 22) (v 27) (v 35) (v 23) a e T (v 20 0) (v 32 0) (v 66) (v 65 3) (v 65 4) (v 65 5) (v 65 6) (v 65 7)).2.2.2.2.2.2.2.2.2))) 66 ((zr_rcI D n (v 21) (v 22) (v 27) (v 35) (v 23) a e T (v 20 0) (v 32 0) (v 66) (v 65 3) (v 65 4) (v 65 5) (v 65 6) (v 65 7)).2.2.2.2.1))) (w := (zb w 64 (vp_updL (vp_updL (vp_updL (vp_updL (w 64) 1 ((zr_rcI D n (v 21) (v 22) (v 27) (v 35) (v 23) a e T (v 20 0) (v 32 0) (v 66) (v 65 3) (v 65 4) (v 65 5) (v 65 6) (v 65 7)).1)) 2 ((zr_rcI D n (v 21) (v 22) (v 27) (v 35) (v 23) a e T (v 20 0) (v 32 0) (v 66) (v 65 3) (v 65 4) (v 65 5) (v 65 6) (v 65 7)).2.1)) 3 ((zr_shorten ((zr_rcI D n (v 21) (v 22) (v 27) (v 35) (v 23) a e T (v 20 0) (v 32 0) (v 66) (v 65 3) (v 65 4) (v 65 5) (v 65 6) (v 65 7)).1) ((zr_rcI D n (v 21) (v 22) (v 27) (v 35) (v 23) a e T (v 20 0) (v 32 0) (v 66) (v 65 3) (v 65 4) (v 65 5) (v 65 6) (v 65 7)).2.1) (v 26 a)).1)) 4 ((zr_shorten ((zr_rcI D n (v 21) (v 22) (v 27) (v 35) (v 23) a e T (v 20 0) (v 32 0) (v 66) (v 65 3) (v 65 4) (v 65 5) (v 65 6) (v 65 7)).1) ((zr_rcI D n (v 21) (v 22) (v 27) (v 35) (v 23) a e T (v 20 0) (v 32 0) (v 66) (v 65 3) (v 65 4) (v 65 5) (v 65 6) (v 65 7)).2.1) (v 26 a)).2)))) a ha4 hg n hn D ht.2.1.2.1 ht.1.1 Gn ht.2.1.2.2.2.2.2.1 ht.1.2.2.1 (zy_ev ht) (zy_lie ht hs) e he5 hI1 T hT2 hT8 (F) (F * W) (100 ^ (zy_cnt (fun d => T.testBit d) 8)) b2 b1 (zy_1016 hF1 hW99) (Nat.pow_pos (by decide)) (Nat.lt_of_le_of_lt (zy_cnt8 T) (by decide)) z (show (v 71 (33 + 2 * a)).toInt64 * lN (F) = lN (F * W) by rw [hWr, (zy_i64 W (by omega)).1, zy_lmul, Nat.mul_comm])) heq (by exact zJ.of 0 (by decide) h.1 rfl rfl)
end ZTM
