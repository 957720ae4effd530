/-! ties: besides -/
section ZY7
variable {D Mn Gn Un : Nat} {r20 r21 r22 r23 r24 r25 r26 r27 r28 r29 r30 r31 r71 r73 : Nat → Int32} {ys lo : Int32} {li th la row : Nat → Int32}
/-- whether a good is lost behind n years -/
theorem zy_gone (ht : zI_t D Mn Gn Un r20 r21 r22 r23 r24 r25 r26 r27 r28 r29 r30 r31 r71 r73) (hs : zI_sw D Mn Gn ys lo li th la row) {slp : Nat → Int32} (hsl : ∀ e, e < 5 → slp e = 0) {n : Nat} (hn : n ≤ 60) (r54 : Nat → Int32) (ou : Int32) (lt lw oo : Nat → Int32) {a : Nat} (ha : a < Gn) :
    bt ((zr_mgo n D Gn r71 slp row ou lt lw oo).1 14) a = !(zq_c (zf (zl_aimG D r21 r22 ys) n 1 r54) ys n r27 th la r23 (fun _ => 0) li lo a).1 := by
  obtain ⟨c, hc, hR, _⟩ := zy_main ht hs (slp := slp) (sl := fun _ => 0) (fun e he => hsl e (by have := ht.1.2.1; omega)) False ou lt lw oo (fun z => z.elim) hn (sk := (zf (zl_aimG D r21 r22 ys) n 1 r54)) (fun j a1 a2 => zl_aim_at D r21 r22 ys n 1 r54 j a1 (by omega))
  rw [hR.2.1 a (by have := ht.1.2.2.1; omega), if_pos ha, hc a ha]
theorem zq_c_at {sk : Nat → Int32} {yg : Int32} {sp : Nat} {fe th la kd li : Nat → Int32} {lo : Int32} {a : Nat} (hl : bt lo a = false) : (zq_c sk yg sp fe th la kd (fun _ => 0) li lo a).1 = decide (¬ (zr_follow sk yg sp (fe a) (zq_l la li a) (zq_P kd th (fun _ => 0) li a 1) (zq_P kd th (fun _ => 0) li a 2)).1 = 0) := by
  rw [zg_follow]
  unfold zq_c zg_z zq_0
  rw [if_neg (by rw [hl]; decide)]
  generalize (zf (zg_n sk yg (fe a) (zq_P kd th (fun _ => 0) li a 1) (zq_P kd th (fun _ => 0) li a 2)) sp 1 (true, -2, -2, (if zq_l la li a ≤ 0 then 0 else -2), zq_l la li a, 0)) = c
  cases hc : c.1 with
  | false => rw [if_neg (by decide)]; rfl
  | true => rw [if_pos rfl]; rfl
theorem zt_orn {a b m : Nat} (hm : m ≤ 31) (ha : a < 2 ^ m) (hb : b < 2 ^ m) : ∃ c, c < 2 ^ m ∧ nI a ||| nI b = nI c := by
  refine ⟨a ||| b, Nat.or_lt_two_pow ha hb, b_ext (fun i hi => ?_)⟩
  rw [b_or, zt_nI hi, zt_nI hi, zt_nI hi, Nat.testBit_or]
theorem zy_th (ht : zI_t D Mn Gn Un r20 r21 r22 r23 r24 r25 r26 r27 r28 r29 r30 r31 r71 r73) (hs : zI_s D Mn Gn ys lo li th la row) {e j : Nat} (he : e < Mn) (hj : j < 2 ^ D) {row2 : Nat → Int32} (h2 : ∀ i, i < 16 → row2 i = row i) : zI_sw D Mn Gn ys lo li (upd th e (th e ||| nI j)) la (upd row2 (5 + e) (row2 (5 + e) ||| nI j)) := by
  have hD := ht.1.1
  have hM := ht.1.2.1
  have hG := ht.1.2.2.1
  obtain ⟨⟨Y, k1, k2, k3⟩, k4, k5, k6, k7, k8⟩ := hs
  have ne : ∀ i, i < 16 → i ≠ 5 + e → upd row2 (5 + e) (row2 (5 + e) ||| nI j) i = row i := fun i hi hne => by rw [pk_un hne, h2 i hi]
  refine ⟨⟨Y, k1, k2, ?_⟩, ?_, ?_, ?_, ?_, ?_⟩
  · rw [ne 15 (by omega) (by omega)]; exact k3
  · rw [ne 14 (by omega) (by omega)]; exact k4
  · intro g hg
    rw [ne (10 + g) (by omega) (by omega)]
    exact k5 g hg
  · intro a b ha hb hab _ _
    rw [ne (10 + a) (by omega) (by omega), ne (10 + b) (by omega) (by omega)]
    exact k6 a b ha hb hab
  · intro m hm
    by_cases hme : m = e
    · subst hme
      obtain ⟨q1, T, q2, q3⟩ := k7 m hm
      rw [pk_us, pk_us, h2 (5 + m) (by omega), q1, q3]
      obtain ⟨c, hc1, hc2⟩ := zt_orn (show D ≤ 31 by omega) q2 hj
      exact ⟨rfl, c, hc1, hc2⟩
    · rw [pk_un hme, ne (5 + m) (by omega) (by omega)]
      exact k7 m hm
  · intro m hm
    rw [ne m (by omega) (by omega)]
    exact k8 m hm
end ZY7
theorem zl_mbes_1 (n D Gn : Nat) (r st : Nat → Int32) (a e j : Nat) (be : Int32) (row : Nat → Int32) (ou : Int32) (lt lw oo slp : Nat → Int32) :
    (zl_mbesG n D Gn r st a e j (be, row, ou, lt, lw, oo, slp)).1 = if nI j &&& st (5 + e) = 0 then (if be < 0 then (if zr_mhasBit ((zr_mgo n D Gn r (zr_mbegin st row lt lw oo slp).2.2.2.2.2 (upd (zr_mbegin st row lt lw oo slp).1 (5 + e) ((zr_mbegin st row lt lw oo slp).1 (5 + e) ||| nI j)) (zr_mbegin st row lt lw oo slp).2.1 (zr_mbegin st row lt lw oo slp).2.2.1 (zr_mbegin st row lt lw oo slp).2.2.2.1 (zr_mbegin st row lt lw oo slp).2.2.2.2.1).1 14) (nI a) = 0 then nI j else be) else (if zr_mones (nI j) < zr_mones be then (if zr_mhasBit ((zr_mgo n D Gn r (zr_mbegin st row lt lw oo slp).2.2.2.2.2 (upd (zr_mbegin st row lt lw oo slp).1 (5 + e) ((zr_mbegin st row lt lw oo slp).1 (5 + e) ||| nI j)) (zr_mbegin st row lt lw oo slp).2.1 (zr_mbegin st row lt lw oo slp).2.2.1 (zr_mbegin st row lt lw oo slp).2.2.2.1 (zr_mbegin st row lt lw oo slp).2.2.2.2.1).1 14) (nI a) = 0 then nI j else be) else be)) else be := by
  unfold zl_mbesG
  show (if _ then _ else _ : Int32 × _).1 = _
  split
  · split
    · split <;> rfl
    · split
      · split <;> rfl
      · rfl
  · rfl
theorem zl_fewT_1 (sk : Nat → Int32) (yg : Int32) (sp : Nat) (fe la kd : Nat → Int32) (a e : Nat) (th : Int32) (j : Nat) (be fw w3 w4 w5 w6 w7 : Int32) :
    (zl_fewTG sk yg sp fe la kd a e th j (be, fw, w3, w4, w5, w6, w7)).1 = (if nI j &&& th = 0 then (if fw ≤ zr_bc (nI j) then be else (if (zr_follow sk yg sp (fe a) (la e) ((zr_heldOff (kd e) (th ||| (nI j)) 1) &&& (0 ^^^ (-1))) ((zr_heldOff (kd e) (th ||| (nI j)) 2) &&& (0 ^^^ (-1)))).1 = 0 then be else nI j)) else be) ∧ (zl_fewTG sk yg sp fe la kd a e th j (be, fw, w3, w4, w5, w6, w7)).2.1 = (if nI j &&& th = 0 then (if fw ≤ zr_bc (nI j) then fw else (if (zr_follow sk yg sp (fe a) (la e) ((zr_heldOff (kd e) (th ||| (nI j)) 1) &&& (0 ^^^ (-1))) ((zr_heldOff (kd e) (th ||| (nI j)) 2) &&& (0 ^^^ (-1)))).1 = 0 then fw else zr_bc (nI j))) else fw) := by
  unfold zl_fewTG
  show (if _ then _ else _ : Int32 × _).1 = _ ∧ (if _ then _ else _ : Int32 × Int32 × _).2.1 = _
  split
  · split
    · exact ⟨rfl, rfl⟩
    · split <;> exact ⟨rfl, rfl⟩
  · exact ⟨rfl, rfl⟩
theorem zy_bcD : ∀ d, d ≤ 8 → ∀ s, s < 256 → s < 2 ^ d → ¬ nI d + 1 ≤ zr_bc (nI s) := by decide +kernel
section ZY7b
variable {D Mn Gn Un : Nat} {r20 r21 r22 r23 r24 r25 r26 r27 r28 r29 r30 r31 r71 r73 : Nat → Int32} {ys lo : Int32} {li th la st : Nat → Int32}
theorem zy_bes (ht : zI_t D Mn Gn Un r20 r21 r22 r23 r24 r25 r26 r27 r28 r29 r30 r31 r71 r73) (hs : zI_s D Mn Gn ys lo li th la st) {a e : Nat} (ha : a < Gn) (he : e < Mn) (hI : li a = nI e) (hl : bt lo a = false) {n N : Nat} (hn : n ≤ 60) (hN : 2 ^ D = N) (r54 row : Nat → Int32) (ou : Int32) (lt lw oo slp : Nat → Int32) (w3 w4 w5 w6 w7 : Int32) :
    (zr_mbes n N D Gn r71 st a e row ou lt lw oo slp).1 = (zr_fewT D N n r21 r22 r27 la r23 a e (th e) ys r54 w3 w4 w5 w6 w7).1 := by
  have hD := ht.1.1
  have hM := ht.1.2.1
  have hG := ht.1.2.2.1
  have hN8 : N ≤ 256 := by rw [← hN]; exact Nat.pow_le_pow_right (by decide) hD
  unfold zr_mbes zr_fewT
  simp only
  have key := zf_rel (G := zl_mbesG n D Gn r71 st a e) (H := zl_fewTG (zf (zl_aimG D r21 r22 ys) n 1 r54) ys n r27 la r23 a e (th e)) (P := fun _ s t => s.1 = t.1 ∧ ((t.1 = -2 ∧ t.2.1 = nI D + 1) ∨ ∃ x, x < N ∧ t.1 = nI x ∧ t.2.1 = zr_bc (nI x))) N 0 (-2, row, ou, lt, lw, oo, slp) (-2, nI D + 1, w3, w4, w5, w6, w7) ⟨rfl, Or.inl ⟨rfl, rfl⟩⟩ ?_
  · exact key.1
  · intro j s t _ hj hp
    obtain ⟨be, row, ou, lt, lw, oo, slp⟩ := s
    obtain ⟨be2, fw, x3, x4, x5, x6, x7⟩ := t
    obtain ⟨h1, h2⟩ := hp
    have h1 : be = be2 := h1
    subst h1
    have hjN : j < N := by omega
    have hi : ∀ z : Int32, (zr_mhasBit ((zr_mgo n D Gn r71 (zr_mbegin st row lt lw oo slp).2.2.2.2.2 (upd (zr_mbegin st row lt lw oo slp).1 (5 + e) ((zr_mbegin st row lt lw oo slp).1 (5 + e) ||| nI j)) (zr_mbegin st row lt lw oo slp).2.1 (zr_mbegin st row lt lw oo slp).2.2.1 (zr_mbegin st row lt lw oo slp).2.2.2.1 (zr_mbegin st row lt lw oo slp).2.2.2.2.1).1 14) (nI a) = 0) ↔ ¬ ((zr_follow (zf (zl_aimG D r21 r22 ys) n 1 r54) ys n (r27 a) (la e) ((zr_heldOff (r23 e) (th e ||| (nI j)) 1) &&& (0 ^^^ (-1))) ((zr_heldOff (r23 e) (th e ||| (nI j)) 2) &&& (0 ^^^ (-1)))).1 = 0) := by
      intro _
      rw [zt_hb0 _ (by omega), zy_gone ht (zy_th ht hs he (show j < 2 ^ D by omega) (fun i hi => zr_mbegin_row _ _ _ _ _ _ hi)) (fun f hf => zr_mbegin_s _ _ _ _ _ _ hf) hn r54 _ _ _ _ ha, zq_c_at hl]
      have hB : ¬ li a < 0 := by rw [hI]; exact nI_pos (by omega)
      have ee : zq_e li a = e := by unfold zq_e; rw [hI]; exact nI_clamp (by omega)
      unfold zq_l zq_P
      rw [if_neg hB, if_neg hB, if_neg hB, ee, pk_us]
      generalize (zr_follow (zf (zl_aimG D r21 r22 ys) n 1 r54) ys n (r27 a) (la e) ((zr_heldOff (r23 e) (th e ||| (nI j)) 1) &&& (0 ^^^ (-1))) ((zr_heldOff (r23 e) (th e ||| (nI j)) 2) &&& (0 ^^^ (-1)))).1 = x
      by_cases hx : x = 0
      · simp [hx]
      · simp [hx]
    have hi := hi 0
    obtain ⟨f1, f2⟩ := zl_fewT_1 (zf (zl_aimG D r21 r22 ys) n 1 r54) ys n r27 la r23 a e (th e) j be fw x3 x4 x5 x6 x7
    rw [zl_mbes_1, f1, f2, ← (hs.2.2.2.2.1 e he).1]
    by_cases hc : nI j &&& th e = 0
    · rw [if_pos hc, if_pos hc, if_pos hc]
      rcases h2 with ⟨h3, h4⟩ | ⟨x, hx, h3, h4⟩
      · have h4 : fw = nI D + 1 := h4
        have h3 : be = -2 := h3
        have hfw : ¬ fw ≤ zr_bc (nI j) := by rw [h4]; exact zy_bcD D hD j (by omega) (by omega)
        rw [if_pos (show be < 0 by rw [h3]; decide), if_neg hfw, if_neg hfw]
        by_cases hg : (zr_follow (zf (zl_aimG D r21 r22 ys) n 1 r54) ys n (r27 a) (la e) ((zr_heldOff (r23 e) (th e ||| (nI j)) 1) &&& (0 ^^^ (-1))) ((zr_heldOff (r23 e) (th e ||| (nI j)) 2) &&& (0 ^^^ (-1)))).1 = 0
        · rw [if_neg (fun z => hi.mp z hg), if_pos hg, if_pos hg]
          exact ⟨rfl, Or.inl ⟨h3, h4⟩⟩
        · rw [if_pos (hi.mpr hg), if_neg hg, if_neg hg]
          exact ⟨rfl, Or.inr ⟨j, hjN, rfl, rfl⟩⟩
      · have h4 : fw = zr_bc (nI x) := h4
        have h3 : be = nI x := h3
        rw [if_neg (show ¬ be < 0 by rw [h3]; exact nI_pos (by omega)), h4, h3, ← zy_bc x (by omega), ← zy_bc j (by omega)]
        by_cases hle : zr_bc (nI x) ≤ zr_bc (nI j)
        · rw [if_neg (Int32.not_lt.mpr hle), if_pos hle, if_pos hle]
          exact ⟨rfl, Or.inr ⟨x, hx, rfl, rfl⟩⟩
        · rw [if_pos (Int32.not_le.mp hle), if_neg hle, if_neg hle]
          by_cases hg : (zr_follow (zf (zl_aimG D r21 r22 ys) n 1 r54) ys n (r27 a) (la e) ((zr_heldOff (r23 e) (th e ||| (nI j)) 1) &&& (0 ^^^ (-1))) ((zr_heldOff (r23 e) (th e ||| (nI j)) 2) &&& (0 ^^^ (-1)))).1 = 0
          · rw [if_neg (fun z => hi.mp z hg), if_pos hg, if_pos hg]
            exact ⟨rfl, Or.inr ⟨x, hx, rfl, rfl⟩⟩
          · rw [if_pos (hi.mpr hg), if_neg hg, if_neg hg]
            exact ⟨rfl, Or.inr ⟨j, hjN, rfl, rfl⟩⟩
    · rw [if_neg hc, if_neg hc, if_neg hc]
      exact ⟨rfl, h2⟩
end ZY7b
section ZTH
variable {Ls : Nat} {xs : Nat → Int32} {v : Nat → Nat → Int32} {w : Nat → Nat → Int64} {t : zk_H}
theorem zT_besides (h : zJ v w) (x y : Int32) : zT Ls xs v w t 218 240 [.int x, .int y] := by
  obtain ⟨_, _, _, _, h46, _, D, Mn, Gn, Un, ht, hs, _, hz⟩ := h.1
  rcases zt_isX h.st (show Gn ≤ 8 by have := ht.1.2.2.1; omega) x with ⟨hx, hg⟩ | ⟨hst, a, ha, rfl, hg⟩
  · rw [← ht.2.1.2.2.2.2.1] at hx
    rw [← h.lv, ← ht.2.1.2.2.2.2.2.1] at hg
    exact zT.mk (zK_besides_t x hx y) (zM_besides_t (v := zb v 0 (upd (v 0) 10 1)) x y hg) rfl (by exact zJ.of 1 (by decide) h.1 rfl rfl)
  · rw [← h.lv, ← ht.2.1.2.2.2.2.2.1] at hg
    have ha4 : a < 4 := (by have := ht.1.2.2.1; omega)
    rcases zt_ah y with ⟨ho, hw⟩ | ⟨n, hn, rfl⟩
    · exact zT.mk (zK_besides_o hst Gn ht.2.1.2.2.2.2.1 ht.1.2.2.1 a ha y ho) (zM_besides_o (v := zb v 0 (upd (v 0) 10 2)) (nI a) y hg hw) rfl (by exact zJ.of 2 (by decide) h.1 rfl rfl)
    · rcases hs.2.2.1 a ha with ⟨hI1, hI2⟩ | ⟨e, he, hI1, hI2⟩
      · exact zT.mk (zK_besides_5a hst Gn ht.2.1.2.2.2.2.1 ht.1.2.2.1 a ha n hn (by rw [hI2]; decide)) (zM_besides_5a (v := zb v 0 (upd (v 0) 10 5)) a ha4 hg n hn hI1) rfl (by exact zJ.of 5 (by decide) h.1 rfl rfl)
      · have he5 : e < 5 := (by have := ht.1.2.1; omega)
        by_cases hl : bt (v 75 14) a = true
        · exact zT.mk (zK_besides_5b hst Gn ht.2.1.2.2.2.2.1 ht.1.2.2.1 a ha n hn e he5 hI2 (by rw [hs.2.1, zt_il _ (by omega), if_pos hl])) (zM_besides_5b (v := zb v 0 (upd (v 0) 10 5)) a ha4 hg n hn e he5 hI1 (by show zr_mhasBit (v 75 14) (nI a) = 1; rw [zt_hb _ (by omega), if_pos hl])) rfl (by exact zJ.of 5 (by decide) h.1 rfl rfl)
        · have hl0 : bt (v 75 14) a = false := Bool.eq_false_iff.mpr hl
          have hN2 : 2 ^ D ≤ 256 := Nat.pow_le_pow_right (by decide) ht.1.1
          exact zT.mk (zK_besides_f hst D ht.2.1.1 ht.1.1 (2 ^ D) rfl hN2 ht.2.2.2.2.1 Gn ht.2.1.2.2.2.2.1 ht.1.2.2.1 a ha n hn e he5 hI2 (by rw [hs.2.1]; exact (zt_il0 _ (by omega)).mpr hl0)) (zM_besides_f (v := (zb (zb (zb v 0 (upd (v 0) 10 0)) 53 (upd (upd (upd (upd (upd (upd (upd (v 53) 0 ((zr_fewT D (2 ^ D) n (v 21) (v 22) (v 27) (v 35) (v 23) a e (v 34 e) (v 32 0) (v 54) (v 53 3) (v 53 4) (v 53 5) (v 53 6) (v 53 7)).2.1)) 1 ((zr_fewT D (2 ^ D) n (v 21) (v 22) (v 27) (v 35) (v 23) a e (v 34 e) (v 32 0) (v 54) (v 53 3) (v 53 4) (v 53 5) (v 53 6) (v 53 7)).2.2.1)) 3 ((zr_fewT D (2 ^ D) n (v 21) (v 22) (v 27) (v 35) (v 23) a e (v 34 e) (v 32 0) (v 54) (v 53 3) (v 53 4) (v 53 5) (v 53 6) (v 53 7)).2.2.2.2.1)) 4 ((zr_fewT D (2 ^ D) n (v 21) (v 22) (v 27) (v 35) (v 23) a e (v 34 e) (v 32 0) (v 54) (v 53 3) (v 53 4) (v 53 5) (v 53 6) (v 53 7)).2.2.2.2.2.1)) 5 ((zr_fewT D (2 ^ D) n (v 21) (v 22) (v 27) (v 35) (v 23) a e (v 34 e) (v 32 0) (v 54) (v 53 3) (v 53 4) (v 53 5) (v 53 6) (v 53 7)).2.2.2.2.2.2.1)) 6 ((zr_fewT D (2 ^ D) n (v 21) (v 22) (v 27) (v 35) (v 23) a e (v 34 e) (v 32 0) (v 54) (v 53 3) (v 53 4) (v 53 5) (v 53 6) (v 53 7)).2.2.2.2.2.2.2.1)) 7 ((zr_fewT D (2 ^ D) n (v 21) (v 22) (v 27) (v 35) (v 23) a e (v 34 e) (v 32 0) (v 54) (v 53 3) (v 53 4) (v 53 5) (v 53 6) (v 53 7)).2.2.2.2.2.2.2.2))) 54 ((zr_fewT D (2 ^ D) n (v 21) (v 22) (v 27) (v 35) (v 23) a e (v 34 e) (v 32 0) (v 54) (v 53 3) (v 53 4) (v 53 5) (v 53 6) (v 53 7)).2.2.2.1))) a ha4 hg n hn D ht.2.1.2.1 ht.1.1 Gn ht.2.1.2.2.2.2.2.1 ht.1.2.2.1 (zy_ev ht) (zy_lie ht hs) (2 ^ D) rfl hN2 e he5 hI1 ((zt_hb0 _ (by omega)).mpr hl0)) (zy_bes ht hs ha he hI2 (by rw [hs.2.1]; exact hl0) hn rfl (v 54) (v 76) (v 68 26) (v 80) (v 81) (v 82) (v 79) (v 53 3) (v 53 4) (v 53 5) (v 53 6) (v 53 7)) (by exact zJ.of 0 (by decide) h.1 rfl rfl)
end ZTH
