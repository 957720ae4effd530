/-! ties: odds, mean -/
theorem zl_mtsI_1 (n D Gn : Nat) (r st : Nat → Int32) (a e T : Nat) (j : Nat) (aw lf : Int64) (row : Nat → Int32) (ou : Int32) (lt lw oo slp : Nat → Int32) :
    (zl_mtsIG n D Gn r st a e T j (aw, lf, row, ou, lt, lw, oo, slp)).1 = (if ((nI j) &&& ((nI T) ^^^ (-1))) = 0 then aw + (zf (zl_mtsWG (r 0) (nI T) (nI j)) 8 0 1) else aw) ∧ (zl_mtsIG n D Gn r st a e T j (aw, lf, row, ou, lt, lw, oo, slp)).2.1 = (if ((nI j) &&& ((nI T) ^^^ (-1))) = 0 then (if zr_mhasBit ((zr_mgo n D Gn r (upd (zr_mbegin st row lt lw oo slp).2.2.2.2.2 e (nI j)) (zr_mbegin st row lt lw oo slp).1 (zr_mbegin st row lt lw oo slp).2.1 (zr_mbegin st row lt lw oo slp).2.2.1 (zr_mbegin st row lt lw oo slp).2.2.2.1 (zr_mbegin st row lt lw oo slp).2.2.2.2.1).1 14) (nI a) = 0 then lf + (zf (zl_mtsWG (r 0) (nI T) (nI j)) 8 0 1) else lf + 0) else lf) := by
  unfold zl_mtsIG
  show (if _ then _ else _ : Int64 × _).1 = _ ∧ (if _ then _ else _ : Int64 × Int64 × _).2.1 = _
  split
  · split <;> exact ⟨rfl, rfl⟩
  · exact ⟨rfl, rfl⟩
theorem zl_mtsB_1 (n D Gn : Nat) (r st : Nat → Int32) (a T : Nat) (j : Nat) (aw lf : Int64) (row : Nat → Int32) (ou : Int32) (lt lw oo slp : Nat → Int32) :
    (zl_mtsBG n D Gn r st a T j (aw, lf, row, ou, lt, lw, oo, slp)).1 = (if ((nI j) &&& ((nI T) ^^^ (-1))) = 0 then aw + (zf (zl_mtsWG (r 0) (nI T) (nI j)) 8 0 1) else aw) ∧ (zl_mtsBG n D Gn r st a T j (aw, lf, row, ou, lt, lw, oo, slp)).2.1 = (if ((nI j) &&& ((nI T) ^^^ (-1))) = 0 then (if zr_mhasBit ((zr_mgo n D Gn r (zr_mbegin st row lt lw oo slp).2.2.2.2.2 (zr_mbegin st row lt lw oo slp).1 (zr_mbegin st row lt lw oo slp).2.1 (zr_mbegin st row lt lw oo slp).2.2.1 (zr_mbegin st row lt lw oo slp).2.2.2.1 (zr_mbegin st row lt lw oo slp).2.2.2.2.1).1 14) (nI a) = 0 then lf + (zf (zl_mtsWG (r 0) (nI T) (nI j)) 8 0 1) else lf + 0) else lf) := by
  unfold zl_mtsBG
  show (if _ then _ else _ : Int64 × _).1 = _ ∧ (if _ then _ else _ : Int64 × Int64 × _).2.1 = _
  split
  · split <;> exact ⟨rfl, rfl⟩
  · exact ⟨rfl, rfl⟩
theorem zl_ws_1 (sk : Nat → Int32) (yg : Int32) (sp : Nat) (fe la kd : Nat → Int32) (a e T : Nat) (hu : Int32) (j : Nat) (s : Int64 × Int32 × Int32 × Int32 × Int32 × Int32) :
    (zl_wsG sk yg sp fe la kd a e T hu j s).1 = if ((nI j) &&& ((nI T) ^^^ (-1))) = 0 then (if lg_cmp (zr_weightOf hu (nI j) (nI T)) 0 ≤ 0 then s.1 else (if (zr_follow sk yg sp (fe a) (la e) ((zr_heldOff (kd e) (nI T) 1) &&& ((nI j) ^^^ (-1))) ((zr_heldOff (kd e) (nI T) 2) &&& ((nI j) ^^^ (-1)))).1 = 0 then s.1 else s.1 + zr_weightOf hu (nI j) (nI T))) else s.1 := by
  obtain ⟨fv, w3, w4, w5, w6, w7⟩ := s
  unfold zl_wsG
  show (if _ then _ else _ : Int64 × _).1 = _
  split
  · split
    · rfl
    · split <;> rfl
  · rw [if_pos (by decide)]
theorem zy_wt_le {h : Nat} (hh : h ≤ 100) (T j : Nat) : ∀ n, zy_wt h T j n ≤ 100 ^ n
  | 0 => Nat.le_refl _
  | n + 1 => by
    show zy_wt h T j n * _ ≤ 100 ^ n * 100
    refine Nat.mul_le_mul (zy_wt_le hh T j n) ?_
    split
    · split <;> omega
    · omega
theorem zy_lg {x : Nat} (hx : x < 2 ^ 63) : lg_cmp (lN x) 0 ≤ 0 ↔ x = 0 := by
  constructor
  · intro h
    rcases Nat.eq_zero_or_pos x with h0 | h0
    · exact h0
    · have h2 : lN x > 0 := (pk_lLT (show 0 < 2 ^ 63 by decide) hx).mpr h0
      unfold lg_cmp at h
      rw [if_pos h2] at h
      exact absurd h (by decide)
  · intro h
    rw [h]
    decide
theorem zy_mlow0 {A W : Nat} (hA : 0 < A) (z : Int32) : zr_mlow (0 * W) A z = zr_mlow (0 * W) 1 z := by
  unfold zr_mlow
  rw [Nat.zero_mul, Nat.gcd_zero_right, Nat.gcd_zero_right, Nat.zero_div, Nat.zero_div, Nat.div_self hA, Nat.div_self (by decide)]
section ZYB
variable {D Mn Gn Un : Nat} {r20 r21 r22 r23 r24 r25 r26 r27 r28 r29 r30 r31 r71 r73 : Nat → Int32} {ys lo : Int32} {li th la st : Nat → Int32}
theorem zy_goneS (ht : zI_t D Mn Gn Un r20 r21 r22 r23 r24 r25 r26 r27 r28 r29 r30 r31 r71 r73) {row : Nat → Int32} (hs : zI_sw D Mn Gn ys lo li th la row) {slp sl : Nat → Int32} (hsl : ∀ e, e < 5 → slp e = sl e) {n : Nat} (hn : n ≤ 60) (r66 : Nat → Int32) (ou : Int32) (lt lw oo : Nat → Int32) {a : Nat} (ha : a < Gn) :
    bt ((zr_mgo n D Gn r71 slp row ou lt lw oo).1 14) a = !(zq_c (zf (zl_aimG D r21 r22 ys) n 1 r66) ys n r27 th la r23 sl li lo a).1 := by
  obtain ⟨c, hc, hR, _⟩ := zy_main ht hs (slp := slp) (sl := sl) (fun e he => hsl e (by have := ht.1.2.1; omega)) False ou lt lw oo (fun z => z.elim) hn (sk := (zf (zl_aimG D r21 r22 ys) n 1 r66)) (fun j a1 a2 => zl_aim_at D r21 r22 ys n 1 r66 j a1 (by omega))
  rw [hR.2.1 a (by have := ht.1.2.2.1; omega), if_pos ha, hc a ha]
theorem zq_c_atS {sk : Nat → Int32} {yg : Int32} {sp : Nat} {fe kd sl : Nat → Int32} {a : Nat} (hl : bt lo a = false) : (zq_c sk yg sp fe th la kd sl li lo a).1 = decide (¬ (zr_follow sk yg sp (fe a) (zq_l la li a) (zq_P kd th sl li a 1) (zq_P kd th sl li a 2)).1 = 0) := by
  rw [zg_follow]
  unfold zq_c zg_z zq_0
  rw [if_neg (by rw [hl]; decide)]
  generalize (zf (zg_n sk yg (fe a) (zq_P kd th sl li a 1) (zq_P kd th sl li a 2)) sp 1 (true, -2, -2, (if zq_l la li a ≤ 0 then 0 else -2), zq_l la li a, 0)) = c
  cases hc : c.1 with
  | false => rw [if_neg (by decide)]; rfl
  | true => rw [if_pos rfl]; rfl
/-- the reference's weights -/
theorem zy_mtsI (ht : zI_t D Mn Gn Un r20 r21 r22 r23 r24 r25 r26 r27 r28 r29 r30 r31 r71 r73) (hs : zI_s D Mn Gn ys lo li th la st) {a e T h : Nat} (ha : a < Gn) (he : e < 5) (hT : T < 256) (hh : h ≤ 100) (hr : r71 0 = nI h) {n : Nat} (hn : n ≤ 60) (r66 row : Nat → Int32) (ou : Int32) (lt lw oo slp : Nat → Int32) :
    (zr_mtsI n D Gn r71 st a e T row ou lt lw oo slp).1 = lN (zy_sum (fun i => if zy_in T i 8 = true then zy_wt h T i 8 else 0) (T + 1)) ∧ (zr_mtsI n D Gn r71 st a e T row ou lt lw oo slp).2.1 = lN (zy_sum (fun i => if zy_in T i 8 = true ∧ (zq_c (zf (zl_aimG D r21 r22 ys) n 1 r66) ys n r27 th la r23 (upd (fun _ => 0) e (nI i)) li lo a).1 = true then zy_wt h T i 8 else 0) (T + 1)) := by
  have hG := ht.1.2.2.1
  unfold zr_mtsI
  simp only
  have key := zf_ind (G := zl_mtsIG n D Gn r71 st a e T) (P := fun k s => s.1 = lN (zy_sum (fun i => if zy_in T i 8 = true then zy_wt h T i 8 else 0) k) ∧ s.2.1 = lN (zy_sum (fun i => if zy_in T i 8 = true ∧ (zq_c (zf (zl_aimG D r21 r22 ys) n 1 r66) ys n r27 th la r23 (upd (fun _ => 0) e (nI i)) li lo a).1 = true then zy_wt h T i 8 else 0) k)) (T + 1) 0 (0, 0, row, ou, lt, lw, oo, slp) ⟨rfl, rfl⟩ ?_
  · rw [Nat.zero_add] at key
    exact key
  · intro j s _ hj hp
    obtain ⟨aw, lf, row, ou, lt, lw, oo, slp⟩ := s
    obtain ⟨p1, p2⟩ := hp
    have p1 : aw = _ := p1
    have p2 : lf = _ := p2
    obtain ⟨m1, m2⟩ := zl_mtsI_1 n D Gn r71 st a e T j aw lf row ou lt lw oo slp
    have hlost : zr_mhasBit ((zr_mgo n D Gn r71 (upd (zr_mbegin st row lt lw oo slp).2.2.2.2.2 e (nI j)) (zr_mbegin st row lt lw oo slp).1 (zr_mbegin st row lt lw oo slp).2.1 (zr_mbegin st row lt lw oo slp).2.2.1 (zr_mbegin st row lt lw oo slp).2.2.2.1 (zr_mbegin st row lt lw oo slp).2.2.2.2.1).1 14) (nI a) = 0 ↔ (zq_c (zf (zl_aimG D r21 r22 ys) n 1 r66) ys n r27 th la r23 (upd (fun _ => 0) e (nI j)) li lo a).1 = true := by
      rw [zt_hb0 _ (by omega), zy_goneS ht (zI_s_of ht.1.2.1 hG hs (fun i hi => zr_mbegin_row _ _ _ _ _ _ hi)).w (sl := upd (fun _ => 0) e (nI j)) (fun f hf => by
        by_cases hfe : f = e
        · rw [hfe, pk_us, pk_us]
        · rw [pk_un hfe, pk_un hfe]; exact zr_mbegin_s _ _ _ _ _ _ hf) hn r66 _ _ _ _ ha]
      cases (zq_c (zf (zl_aimG D r21 r22 ys) n 1 r66) ys n r27 th la r23 (upd (fun _ => 0) e (nI j)) li lo a).1 <;> decide
    show _ = lN (zy_sum _ j + (if zy_in T j 8 = true then zy_wt h T j 8 else 0)) ∧ _ = lN (zy_sum _ j + (if zy_in T j 8 = true ∧ (zq_c (zf (zl_aimG D r21 r22 ys) n 1 r66) ys n r27 th la r23 (upd (fun _ => 0) e (nI j)) li lo a).1 = true then zy_wt h T j 8 else 0))
    rw [m1, m2, hr, zl_mtsW_at hh T j 8 (by decide)]
    by_cases hin : zy_in T j 8 = true
    · rw [if_pos ((zy_sub_iff (by omega) hT).mpr hin), if_pos ((zy_sub_iff (by omega) hT).mpr hin), if_pos hin, p1, zy_ladd]
      refine ⟨rfl, ?_⟩
      by_cases hq : (zq_c (zf (zl_aimG D r21 r22 ys) n 1 r66) ys n r27 th la r23 (upd (fun _ => 0) e (nI j)) li lo a).1 = true
      · rw [if_pos (hlost.mpr hq), if_pos ⟨hin, hq⟩, p2, zy_ladd]
      · rw [if_neg (fun z => hq (hlost.mp z)), if_neg (fun z => hq z.2), p2, Nat.add_zero, Int64.add_zero]
    · rw [if_neg (fun z => hin ((zy_sub_iff (by omega) hT).mp z)), if_neg (fun z => hin ((zy_sub_iff (by omega) hT).mp z)), if_neg hin, if_neg (fun z => hin z.1), p1, p2, Nat.add_zero, Nat.add_zero]
      exact ⟨rfl, rfl⟩
/-- the class's -/
theorem zy_ws {a e T h : Nat} (he : e < 5) (hI : li a = nI e) (hth : th e = nI T) (hl : bt lo a = false) (hT : T < 256) (hh : h ≤ 100) {n : Nat} (r66 : Nat → Int32) (w3 w4 w5 w6 w7 : Int32) :
    (zr_rcI D n r21 r22 r27 la r23 a e T (nI h) ys r66 w3 w4 w5 w6 w7).1 = lN (zy_sum (fun i => if zy_in T i 8 = true ∧ (zq_c (zf (zl_aimG D r21 r22 ys) n 1 r66) ys n r27 th la r23 (upd (fun _ => 0) e (nI i)) li lo a).1 = true then zy_wt h T i 8 else 0) (T + 1)) ∧ (zr_rcI D n r21 r22 r27 la r23 a e T (nI h) ys r66 w3 w4 w5 w6 w7).2.1 = lN (100 ^ (zy_cnt (fun d => T.testBit d) 8)) := by
  have hb := zy_cnt_le (fun d => T.testBit d) 8
  unfold zr_rcI zr_ws
  simp only
  refine ⟨?_, ?_⟩
  · have key := zf_ind (G := zl_wsG (zf (zl_aimG D r21 r22 ys) n 1 r66) ys n r27 la r23 a e T (nI h)) (P := fun k s => s.1 = lN (zy_sum (fun i => if zy_in T i 8 = true ∧ (zq_c (zf (zl_aimG D r21 r22 ys) n 1 r66) ys n r27 th la r23 (upd (fun _ => 0) e (nI i)) li lo a).1 = true then zy_wt h T i 8 else 0) k)) (T + 1) 0 (0, w3, w4, w5, w6, w7) rfl ?_
    · rw [Nat.zero_add] at key
      exact key
    · intro j s _ hj hp
      have hq : (zq_c (zf (zl_aimG D r21 r22 ys) n 1 r66) ys n r27 th la r23 (upd (fun _ => 0) e (nI j)) li lo a).1 = decide (¬ (zr_follow (zf (zl_aimG D r21 r22 ys) n 1 r66) ys n (r27 a) (la e) ((zr_heldOff (r23 e) (nI T) 1) &&& ((nI j) ^^^ (-1))) ((zr_heldOff (r23 e) (nI T) 2) &&& ((nI j) ^^^ (-1)))).1 = 0) := by
        have hB : ¬ li a < 0 := by rw [hI]; exact nI_pos (by omega)
        have ee : zq_e li a = e := by unfold zq_e; rw [hI]; exact nI_clamp (by omega)
        rw [zq_c_atS hl]
        unfold zq_l zq_P
        rw [if_neg hB, if_neg hB, if_neg hB, ee, pk_us, hth]
      show (zl_wsG (zf (zl_aimG D r21 r22 ys) n 1 r66) ys n r27 la r23 a e T (nI h) j s).1 = lN (zy_sum _ j + (if zy_in T j 8 = true ∧ (zq_c (zf (zl_aimG D r21 r22 ys) n 1 r66) ys n r27 th la r23 (upd (fun _ => 0) e (nI j)) li lo a).1 = true then zy_wt h T j 8 else 0))
      rw [zl_ws_1, hp, hq]
      by_cases hin : zy_in T j 8 = true
      · have hin2 := zy_inI.mp hin
        have hw8 := zy_wt_le hh T j 8
        rw [if_pos ((zy_sub_iff (by omega) hT).mpr hin), zr_weightOf_at hh hT (by omega) (fun d hd => by
          by_cases h8 : d < 8
          · exact hin2 d h8 hd
          · rw [Nat.testBit_lt_two_pow (Nat.lt_of_lt_of_le (show j < 256 by omega) (show 256 ≤ 2 ^ d from Nat.pow_le_pow_right (n := 2) (i := 8) (by decide) (by omega)))] at hd
            cases hd)]
        by_cases hf : (zr_follow (zf (zl_aimG D r21 r22 ys) n 1 r66) ys n (r27 a) (la e) ((zr_heldOff (r23 e) (nI T) 1) &&& ((nI j) ^^^ (-1))) ((zr_heldOff (r23 e) (nI T) 2) &&& ((nI j) ^^^ (-1)))).1 = 0
        · rw [if_pos hf, ite_self, if_neg (show ¬ (zy_in T j 8 = true ∧ decide (¬ (zr_follow (zf (zl_aimG D r21 r22 ys) n 1 r66) ys n (r27 a) (la e) ((zr_heldOff (r23 e) (nI T) 1) &&& ((nI j) ^^^ (-1))) ((zr_heldOff (r23 e) (nI T) 2) &&& ((nI j) ^^^ (-1)))).1 = 0) = true) from fun z => of_decide_eq_true z.2 hf), Nat.add_zero]
        · rw [if_neg hf, if_pos (show zy_in T j 8 = true ∧ decide (¬ (zr_follow (zf (zl_aimG D r21 r22 ys) n 1 r66) ys n (r27 a) (la e) ((zr_heldOff (r23 e) (nI T) 1) &&& ((nI j) ^^^ (-1))) ((zr_heldOff (r23 e) (nI T) 2) &&& ((nI j) ^^^ (-1)))).1 = 0) = true from ⟨hin, decide_eq_true hf⟩)]
          by_cases h0 : zy_wt h T j 8 = 0
          · rw [if_pos ((zy_lg (by omega)).mpr h0), h0, Nat.add_zero]
          · rw [if_neg (fun z => h0 ((zy_lg (by omega)).mp z)), zy_ladd]
      · rw [if_neg (fun z => hin ((zy_sub_iff (by omega) hT).mp z)), if_neg (show ¬ (zy_in T j 8 = true ∧ decide (¬ (zr_follow (zf (zl_aimG D r21 r22 ys) n 1 r66) ys n (r27 a) (la e) ((zr_heldOff (r23 e) (nI T) 1) &&& ((nI j) ^^^ (-1))) ((zr_heldOff (r23 e) (nI T) 2) &&& ((nI j) ^^^ (-1)))).1 = 0) = true) from fun z => hin z.1), Nat.add_zero]
  · unfold zr_power
    rw [zy_bc8 T hT, show (100 : Int32).toInt64 = lN 100 from (zy_i64 100 (by decide)).1, nI_clamp (by omega), zl_power_at]
theorem zy_mtsB (ht : zI_t D Mn Gn Un r20 r21 r22 r23 r24 r25 r26 r27 r28 r29 r30 r31 r71 r73) (hs : zI_s D Mn Gn ys lo li th la st) {a h : Nat} (ha : a < Gn) (hh : h ≤ 100) (hr : r71 0 = nI h) {n : Nat} (hn : n ≤ 60) (r66 row : Nat → Int32) (ou : Int32) (lt lw oo slp : Nat → Int32) :
    (zr_mtsB n D Gn r71 st a 0 row ou lt lw oo slp).1 = lN 1 ∧ (zr_mtsB n D Gn r71 st a 0 row ou lt lw oo slp).2.1 = lN (if (zq_c (zf (zl_aimG D r21 r22 ys) n 1 r66) ys n r27 th la r23 (fun _ => 0) li lo a).1 = true then 1 else 0) := by
  have hG := ht.1.2.2.1
  obtain ⟨m1, m2⟩ := zl_mtsB_1 n D Gn r71 st a 0 0 0 0 row ou lt lw oo slp
  have hw := zl_mtsW_at hh 0 0 8 (by decide)
  rw [show zy_wt h 0 0 8 = 1 by unfold zy_wt; simp [zy_wt]] at hw
  have hlost : zr_mhasBit ((zr_mgo n D Gn r71 (zr_mbegin st row lt lw oo slp).2.2.2.2.2 (zr_mbegin st row lt lw oo slp).1 (zr_mbegin st row lt lw oo slp).2.1 (zr_mbegin st row lt lw oo slp).2.2.1 (zr_mbegin st row lt lw oo slp).2.2.2.1 (zr_mbegin st row lt lw oo slp).2.2.2.2.1).1 14) (nI a) = 0 ↔ (zq_c (zf (zl_aimG D r21 r22 ys) n 1 r66) ys n r27 th la r23 (fun _ => 0) li lo a).1 = true := by
    rw [zt_hb0 _ (by omega), zy_goneS ht (zI_s_of ht.1.2.1 hG hs (fun i hi => zr_mbegin_row _ _ _ _ _ _ hi)).w (sl := fun _ => 0) (fun f hf => zr_mbegin_s _ _ _ _ _ _ hf) hn r66 _ _ _ _ ha]
    cases (zq_c (zf (zl_aimG D r21 r22 ys) n 1 r66) ys n r27 th la r23 (fun _ => 0) li lo a).1 <;> decide
  rw [hr, hw, if_pos (show ((nI 0) &&& ((nI 0) ^^^ (-1))) = 0 by decide)] at m1 m2
  refine ⟨m1, m2.trans ?_⟩
  by_cases hq : (zq_c (zf (zl_aimG D r21 r22 ys) n 1 r66) ys n r27 th la r23 (fun _ => 0) li lo a).1 = true
  · rw [if_pos (hlost.mpr hq), if_pos hq]
    rfl
  · rw [if_neg (fun z => hq (hlost.mp z)), if_neg hq]
    rfl
end ZYB
